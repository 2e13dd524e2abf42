/-! A LAND's text, on the model's side: the memory from 3600 on -/
theorem shl_b {k : Nat} (hk : k ≤ 30) : shl32 1 (k : Int) = ((2 ^ k : Nat) : Int) := by
  have h : ∀ k : Nat, k < 31 → shl32 1 (k : Int) = ((2 ^ k : Nat) : Int) := by decide +kernel
  exact h k (by omega)
theorem and_b {v k : Nat} (hv : v < 2147483648) (hk : k ≤ 30) : (and32 (v : Int) (shl32 1 (k : Int)) = 0) = (v.testBit k = false) := by
  rw [shl_b hk, and_n ((2 ^ k : Nat) : Int) hv rfl]
  apply propext
  constructor
  · intro z
    have z2 : v &&& 2 ^ k = 0 := by omega
    have b : (v &&& 2 ^ k).testBit k = false := by rw [z2]; exact Nat.zero_testBit k
    rw [Nat.testBit_and, Nat.testBit_two_pow, decide_eq_true rfl, Bool.and_true] at b
    exact b
  · intro z
    have z2 : v &&& 2 ^ k = 0 := by
      apply Nat.eq_of_testBit_eq
      intro j
      rw [Nat.testBit_and, Nat.testBit_two_pow, Nat.zero_testBit]
      by_cases e : k = j
      · rw [← e, z]; rfl
      · rw [decide_eq_false e, Bool.and_false]
    rw [z2]; rfl
theorem or_b {v k : Nat} (hv : v < 524288) (hk : k ≤ 18) : or32 (v : Int) (shl32 1 (k : Int)) = ((v ||| 2 ^ k : Nat) : Int) ∧ v ||| 2 ^ k < 524288 := by
  have p : 2 ^ k < 524288 := by
    have h : ∀ k : Nat, k < 19 → 2 ^ k < 524288 := by decide
    exact h k (by omega)
  have e : v ||| 2 ^ k < 524288 := Nat.or_lt_two_pow (n := 19) hv p
  exact ⟨by rw [shl_b (by omega), or_n ((2 ^ k : Nat) : Int) (by omega) (by omega) rfl], e⟩
theorem tb_or (v k j : Nat) : (v ||| 2 ^ k).testBit j = (v.testBit j || decide (k = j)) := by
  rw [Nat.testBit_or, Nat.testBit_two_pow]
/-- what is told already, in bits -/
def TB (x : Int) (L : PL) : Prop := ∃ v : Nat, x = (v : Int) ∧ v < 524288 ∧ (∀ m q, bit1 m → 0 ≤ q → q < 6 → (v.testBit (2 * q + m).toNat = true ↔ L.tq m q = 1)) ∧ (v.testBit 17 = true ↔ L.tw = 1) ∧ (v.testBit 18 = true ↔ L.tc = 1)
def NI (h : KH) (L : PL) : Prop := (MS (fun j => h 139 (3600 + j)) L.A) ∧ (∀ q, inq L.A q → h 145 q = L.na q) ∧ (TB (h 138 18) L)
theorem NI.ms {h : KH} {L : PL} (z_ : NI h L) : MS (fun j => h 139 (3600 + j)) L.A := z_.1
theorem NI.na {h : KH} {L : PL} (z_ : NI h L) : ∀ q, inq L.A q → h 145 q = L.na q := z_.2.1
theorem NI.tb {h : KH} {L : PL} (z_ : NI h L) : TB (h 138 18) L := z_.2.2
def FN (h h2 : KH) : Prop := (∀ a, a ≠ 138 → a ≠ 139 → a ≠ 145 → h2 a = h a) ∧ (∀ j, (j < 11 ∨ 18 < j) → h2 138 j = h 138 j) ∧ ∀ j, j < 3600 → h2 139 j = h 139 j
theorem FN.rfl_ (h : KH) : FN h h := ⟨fun _ _ _ _ => rfl, fun _ _ => rfl, fun _ _ => rfl⟩
theorem FN.tok {h h1 h2 : KH} (F : FN h h1) (f : FT h1 h2) : FN h h2 := ⟨fun a a0 a1 a2 => by rw [f.1 a a0, F.1 a a0 a1 a2], fun j hj => by rw [f.2 j (by omega), F.2.1 j hj], fun j hj => by rw [f.1 139 (by decide), F.2.2 j hj]⟩
theorem FN.at_ {h h1 : KH} {i v : Int} (F : FN h h1) (hi : 3600 ≤ i) : FN h (hset h1 139 i v) := ⟨fun a a0 a1 a2 => by rw [hset_a _ _ _ a1, F.1 a a0 a1 a2], fun j hj => by rw [hset_a _ _ _ (by decide), F.2.1 j hj], fun j hj => by rw [hset_i _ _ (by omega), F.2.2 j hj]⟩
theorem FN.mk {g : KG} {h h2 : KH} (F : FN h h2) (K : MK g h) : MK g h2 := K.keep (fun j hj => F.2.1 j (by omega))
theorem FN.tr {h h1 h2 : KH} (F : FN h h1) (F2 : FN h1 h2) : FN h h2 := ⟨fun a a0 a1 a2 => by rw [F2.1 a a0 a1 a2, F.1 a a0 a1 a2], fun j hj => by rw [F2.2.1 j hj, F.2.1 j hj], fun j hj => by rw [F2.2.2 j hj, F.2.2 j hj]⟩
theorem NI.tok {h h2 : KH} {L : PL} (N : NI h L) (f : FT h h2) : NI h2 L := ⟨by rw [f.1 139 (by decide)]; exact N.ms, by rw [f.1 145 (by decide)]; exact N.na, by rw [f.2 18 (by decide)]; exact N.tb⟩
theorem MP.at_ {h : KH} {t : Int → Int} {n p : Nat} {a i v : Int} (T : MP h t n p) (h1 : a ≠ 138) (h2 : a ≠ 144) : MP (hset h a i v) t n p := by
  have y8 : hset h a i v 138 = h 138 := hset_a _ _ _ (by omega)
  exact ⟨T.mt.keep (by rw [y8]) (hset_a _ _ _ (by omega)), by rw [y8]; exact T.mu, by rw [y8]; exact T.fk, by rw [y8]; exact T.fp, by rw [y8]; exact T.fd⟩
theorem MF.at_ {h : KH} {k pl : Int} {a i v : Int} (T : MF h k pl) (h1 : a ≠ 138) : MF (hset h a i v) k pl := by
  have y8 : hset h a i v 138 = h 138 := hset_a _ _ _ (by omega)
  exact ⟨by rw [y8]; exact T.fk, T.k0, by rw [y8]; exact T.fp, by rw [y8]; exact T.fd⟩
theorem M187 {s q m r : Int} (hs : 0 ≤ s ∧ s ≤ 3600) (hq : 0 ≤ q ∧ q < 6) (hm : bit1 m) (hr : 0 ≤ r ∧ r < 4) {d : Nat} {g : KG} {h : KH} {Q : Option KV → KG → KH → Prop} (hQ : Q (some (xI (s + 26 + 32 * q + 16 * m + 4 * r))) g h) : Cl (d + 1) 187 [xI s, xI q, xI m, xI r] g h Q := by
  have m1 := bit1_le hm
  rw [E187, w32_id (x := s + 26) (by omega) (by omega), w32_id (x := 32 * q) (by omega) (by omega), w32_id (x := 16 * m) (by omega) (by omega), w32_id (x := 4 * r) (by omega) (by omega), w32_id (x := s + 26 + 32 * q) (by omega) (by omega), w32_id (x := s + 26 + 32 * q + 16 * m) (by omega) (by omega), w32_id (by omega) (by omega)]
  exact hQ
/-- the tables of a new question -/
theorem L188 {g : KG} {h : KH} (K : MK g h) {q c : Int} (hq : 0 ≤ q ∧ q < 6) (hc : 2 ≤ c ∧ c ≤ 4) {d : Nat} {Q : Option KV → KG → KH → Prop} (hv : h 139 (3608 + 3 * q) = c) (hQ : ∀ h2 : KH, (∀ a, a ≠ 139 → h2 a = h a) → (∀ j, (j < 3626 + 32 * q ∨ 3658 + 32 * q ≤ j) → h2 139 j = h 139 j) → (∀ m a, bit1 m → 0 ≤ a → a < c → h2 139 (3626 + 32 * q + 16 * m + a) = shq c a) → Rn (d + 1) 188 108 [xR 138, xI q, xI (3608 + 3 * q), xI 2, xI c] [] g h2 Q) : Rn (d + 1) 188 108 [xR 138, xI q, xI (3608 + 3 * q), xI 0, xU] [] g h Q := by
  have inner : ∀ m : Int, bit1 m → ∀ n : Nat, ∀ a : Int, 0 ≤ a → a + n = c → ∀ h1 : KH, (∀ x, x ≠ 139 → h1 x = h x) → (∀ j, (j < 3626 + 32 * q ∨ 3658 + 32 * q ≤ j) → h1 139 j = h 139 j) → (∀ i b, bit1 i → i < m → 0 ≤ b → b < c → h1 139 (3626 + 32 * q + 16 * i + b) = shq c b) → (∀ b, 0 ≤ b → b < a → h1 139 (3626 + 32 * q + 16 * m + b) = shq c b) → (∀ h2 : KH, (∀ x, x ≠ 139 → h2 x = h x) → (∀ j, (j < 3626 + 32 * q ∨ 3658 + 32 * q ≤ j) → h2 139 j = h 139 j) → (∀ i b, bit1 i → i ≤ m → 0 ≤ b → b < c → h2 139 (3626 + 32 * q + 16 * i + b) = shq c b) → Rn (d + 1) 188 108 [xR 138, xI q, xI (3608 + 3 * q), xI (m + 1), xI c] [] g h2 Q) → Rn (d + 1) 188 116 [xR 138, xI q, xI (3608 + 3 * q), xI m, xI a] [] g h1 Q := by
    intro m hm n
    have m1 := bit1_le hm
    induction n with
    | zero =>
      intro a a0 ha h1 f1 b1 o1_ c1 z
      have ha : a = c := by omega
      have K1 : MK g h1 := K.keep (fun j _ => by rw [f1 138 (by decide)])
      have v1 : h1 139 (3608 + 3 * q) = c := by rw [b1 _ (by omega)]; exact hv
      rw [B188_116, ga K.k0, K1.pat, ga ⟨K.kat, by omega, by rw [K.lat]; omega⟩, v1, if_pos (by omega), w32_id (by omega) (by omega), ha]
      refine z h1 f1 b1 (fun i b hi im b0 bc => ?_)
      by_cases e : i = m
      · rw [e]; exact c1 b b0 (by omega)
      · exact o1_ i b hi (by omega) b0 bc
    | succ n ih =>
      intro a a0 ha h1 f1 b1 o1_ c1 z
      have K1 : MK g h1 := K.keep (fun j _ => by rw [f1 138 (by decide)])
      have v1 : h1 139 (3608 + 3 * q) = c := by rw [b1 _ (by omega)]; exact hv
      rw [B188_116, ga K.k0, K1.pat, ga ⟨K.kat, by omega, by rw [K.lat]; omega⟩, v1, if_neg (by omega), ga K.k0]
      refine M187 (by decide) hq hm (by decide) ?_
      have c3 : c = 2 ∨ c = 3 ∨ c = 4 := by omega
      have tm : Int.tmod 16 c = 16 % c := by rcases c3 with rfl | rfl | rfl <;> decide
      have td : w32 (Int.tdiv 16 c) = 16 / c := by rcases c3 with rfl | rfl | rfl <;> decide
      have bd : 0 ≤ 16 / c ∧ 16 / c ≤ 8 := by rcases c3 with rfl | rfl | rfl <;> decide
      have fin : ∀ v : Int, w32 (w32 (Int.tdiv 16 c) + v) = shq c a → Rn (d + 1) 188 171 [xR 138, xI q, xI (3608 + 3 * q), xI m, xI a] [xI v, xI (w32 (Int.tdiv 16 c)), xI (w32 (3600 + 26 + 32 * q + 16 * m + 4 * 0 + a)), xR 139] g h1 Q := by
        intro v hv2
        rw [w32_id (x := 3600 + 26 + 32 * q + 16 * m + 4 * 0 + a) (by omega) (by omega), B188_171, ga ⟨K.kat, by decide, by omega, by rw [K.lat]; omega⟩, w32_id (x := a + 1) (by omega) (by omega), hv2]
        refine ih (a + 1) (by omega) (by omega) _ (fun x hx => by rw [hset_a _ _ _ hx, f1 x hx]) (fun j hj => by rw [hset_i _ _ (by omega), b1 j hj]) (fun i b hi im b0 bc => by have := bit1_le hi; rw [hset_i _ _ (by omega)]; exact o1_ i b hi im b0 bc) (fun b b0 b1_ => ?_) z
        by_cases e : b = a
        · rw [e, show 3600 + 26 + 32 * q + 16 * m + 4 * 0 + a = 3626 + 32 * q + 16 * m + a by omega, hset_e]
        · rw [hset_i _ _ (by omega)]; exact c1 b b0 (by omega)
      rw [o1, List.cons_append, List.nil_append, B188_140, ga K.k0, K1.pat, ga ⟨K.kat, by omega, by rw [K.lat]; omega⟩, v1, ga (by omega), ga K.k0, ga ⟨K.kat, by omega, by rw [K.lat]; omega⟩, ga (by omega), tm]
      rw [td] at fin ⊢
      unfold shq at fin
      by_cases y : a < 16 % c
      · rw [if_pos y] at fin
        rw [if_neg (by omega)]
        exact fin 1 (w32_id (by omega) (by omega))
      · rw [if_neg y] at fin
        rw [if_pos (by omega)]
        exact fin 0 (w32_id (by omega) (by omega))
  rw [B188_108, if_neg (by decide)]
  refine inner 0 (Or.inl rfl) c.toNat 0 (by decide) (by omega) h (fun _ _ => rfl) (fun _ _ => rfl) (fun i b hi im b0 bc => by have := bit1_le hi; omega) (fun b b0 b1 => by omega) (fun h1 f1 b1 c1 => ?_)
  rw [B188_108, if_neg (by decide)]
  refine inner 1 (Or.inr rfl) c.toNat 0 (by decide) (by omega) h1 f1 b1 (fun i b hi im b0 bc => c1 i b hi (by have := bit1_le hi; omega) b0 bc) (fun b b0 b1 => by omega) (fun h2 f2 b2 c2 => ?_)
  exact hQ h2 f2 b2 (fun m a hm a0 ac => c2 m a hm (bit1_le hm).2 a0 ac)
