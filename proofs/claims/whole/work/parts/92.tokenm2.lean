/-! the model's tokens: words, signs, faults -/
def MP (h : KH) (t : Int → Int) (n p : Nat) : Prop := (MT h t n) ∧ (MU (h 138) t n p) ∧ (h 138 17 = 0) ∧ (h 138 16 = -1) ∧ (h 138 9 = 0)
theorem MP.mt {h : KH} {t : Int → Int} {n p : Nat} (z_ : MP h t n p) : MT h t n := z_.1
theorem MP.mu {h : KH} {t : Int → Int} {n p : Nat} (z_ : MP h t n p) : MU (h 138) t n p := z_.2.1
theorem MP.fk {h : KH} {t : Int → Int} {n p : Nat} (z_ : MP h t n p) : h 138 17 = 0 := z_.2.2.1
theorem MP.fp {h : KH} {t : Int → Int} {n p : Nat} (z_ : MP h t n p) : h 138 16 = -1 := z_.2.2.2.1
theorem MP.fd {h : KH} {t : Int → Int} {n p : Nat} (z_ : MP h t n p) : h 138 9 = 0 := z_.2.2.2.2
def MF (h : KH) (k pl : Int) : Prop := (h 138 17 = k) ∧ (k ≠ 0) ∧ (h 138 16 = pl) ∧ (h 138 9 = 0)
theorem MF.fk {h : KH} {k pl : Int} (z_ : MF h k pl) : h 138 17 = k := z_.1
theorem MF.k0 {h : KH} {k pl : Int} (z_ : MF h k pl) : k ≠ 0 := z_.2.1
theorem MF.fp {h : KH} {k pl : Int} (z_ : MF h k pl) : h 138 16 = pl := z_.2.2.1
theorem MF.fd {h : KH} {k pl : Int} (z_ : MF h k pl) : h 138 9 = 0 := z_.2.2.2
/-- the token slots alone may have changed -/
def FT (h h2 : KH) : Prop := (∀ a, a ≠ 138 → h2 a = h a) ∧ ∀ j, (j < 11 ∨ 17 < j) → h2 138 j = h 138 j
theorem FT.mk {g : KG} {h h2 : KH} (F : FT h h2) (K : MK g h) : MK g h2 := K.keep (fun j hj => F.2 j (by omega))
theorem FT.tr {h h1 h2 : KH} (F : FT h h1) (F2 : FT h1 h2) : FT h h2 := ⟨fun a ha => by rw [F2.1 a ha, F.1 a ha], fun j hj => by rw [F2.2 j hj, F.2 j hj]⟩
theorem M176 {g : KG} {h : KH} (K : MK g h) {t : Int → Int} {n p : Nat} (T : MP h t n p) {d : Nat} {Q : Option KV → KG → KH → Prop} (hQ : ∀ h2 : KH, FT h h2 → (∀ j, (j < 11 ∨ 14 < j) → h2 138 j = h 138 j) → MP h2 t n (nxt t n p) → Q none g h2) : Cl (d + 2) 176 [xR 138] g h Q := by
  have e := ed_r t T.mu.pn
  refine A176 K T.mt e.2.1 T.mu.en (fun h2 f2 j2 U => ?_)
  exact hQ h2 ⟨f2, fun j hj => j2 j (by omega)⟩ j2 ⟨T.mt.keep (j2 10 (by decide)) (f2 144 (by decide)), U, by rw [j2 17 (by decide)]; exact T.fk, by rw [j2 16 (by decide)]; exact T.fp, by rw [j2 9 (by decide)]; exact T.fd⟩
theorem mkd_4 (t : Int → Int) (n p : Nat) : (mkd (kd t n p) = 1) = (kd t n p = 4) := by
  have := kd_r t n p
  unfold mkd
  apply propext
  constructor
  · intro z
    split at z
    · omega
    · split at z
      · omega
      · split at z
        · omega
        · split at z <;> omega
  · intro z
    rw [z]; decide
theorem mkd_3 (t : Int → Int) (n p : Nat) : (mkd (kd t n p) = 4) = (kd t n p = 3) := by
  have := kd_r t n p
  unfold mkd
  apply propext
  constructor
  · intro z
    split at z
    · omega
    · split at z
      · omega
      · split at z
        · omega
        · split at z <;> omega
  · intro z
    rw [z]; decide
theorem mkd_2 (t : Int → Int) (n p : Nat) : (mkd (kd t n p) = 3) = (kd t n p = 2) := by
  have := kd_r t n p
  unfold mkd
  apply propext
  constructor
  · intro z
    split at z
    · omega
    · split at z
      · omega
      · split at z
        · omega
        · split at z <;> omega
  · intro z
    rw [z]; decide
theorem mkd_1 (t : Int → Int) (n p : Nat) : (mkd (kd t n p) = 2) = (kd t n p = 1) := by
  have := kd_r t n p
  unfold mkd
  apply propext
  constructor
  · intro z
    split at z
    · omega
    · split at z
      · omega
      · split at z
        · omega
        · split at z <;> omega
  · intro z
    rw [z]; decide
theorem mkd_0 (t : Int → Int) (n p : Nat) : (mkd (kd t n p) = 0) = (kd t n p = 0) := by
  have := kd_r t n p
  unfold mkd
  apply propext
  constructor
  · intro z
    split at z
    · omega
    · split at z
      · omega
      · split at z
        · omega
        · split at z <;> omega
  · intro z
    rw [z]; decide
theorem M179 {g : KG} {h : KH} (K : MK g h) {t : Int → Int} {n p : Nat} (T : MP h t n p) {k : Int} (k0 : k ≠ 0) {d : Nat} {Q : Option KV → KG → KH → Prop} (hQ : ∀ h2 : KH, FT h h2 → MF h2 (flt t n p k) p → Q (some (xI 0)) g h2) : Cl (d + 1) 179 [xR 138, xI k] g h Q := by
  have fin : ∀ v : Int, v = flt t n p k → Rn d 179 21 [xR 138, xI k] [xI v, xR 138] g h Q := by
    intro v hv
    rw [B179_21, ga K.k0, ga K.k0, ga K.k0, B179_32, ga (by decide)]
    refine hQ _ ⟨fun a ha => by rw [hset_a _ _ _ ha, hset_a _ _ _ ha], fun j hj => by rw [hset_i _ _ (by omega), hset_i _ _ (by omega)]⟩ ⟨by rw [hset_i _ _ (by decide), hset_e, hv], flt_0 k0, by rw [hset_e, hset_i _ _ (by decide)]; exact T.mu.fr, by rw [hset_i _ _ (by decide), hset_i _ _ (by decide)]; exact T.fd⟩
  have e4 := mkd_4 t n p
  rw [E179, ga K.k0, T.fk, if_neg (fun z => z rfl), ga K.k0, T.mu.tk]
  by_cases z : kd t n p = 4
  · rw [if_neg (fun y => y (by rw [e4]; exact z))]
    exact fin 1 (by unfold flt; rw [if_pos z])
  · rw [if_pos (fun y => z (by rw [e4] at y; exact y))]
    exact fin k (by unfold flt; rw [if_neg z])
theorem M177 {g : KG} {h : KH} (K : MK g h) {t : Int → Int} {n p : Nat} (T : MP h t n p) {c : Int} {d : Nat} {Q : Option KV → KG → KH → Prop} (hQ : Q (some (xI (bz (sgnD t n p c)))) g h) : Cl (d + 1) 177 [xR 138, xI c] g h Q := by
  have e3 := mkd_3 t n p
  have no : ¬ sgnD t n p c → Rn d 177 20 [xR 138, xI c] [] g h Q := by
    intro z
    rw [bzf z] at hQ
    rw [B177_20, B177_21, ga (by decide)]
    exact hQ
  rw [E177, ga K.k0, T.mu.tk]
  by_cases z : kd t n p = 3
  · have v := T.mu.vl (Or.inr z)
    have vn : nmv t n p = t p := by unfold nmv; rw [if_neg (by omega)]
    rw [if_neg (fun y => y (by rw [e3]; exact z)), ga K.k0, v, vn]
    by_cases y : t p = c
    · rw [bzt ⟨z, y⟩] at hQ
      rw [if_neg (fun x => x y), B177_21, ga (by decide)]
      exact hQ
    · rw [if_pos y]; exact no (fun x => y x.2)
  · rw [if_pos (fun y => z (by rw [e3] at y; exact y))]
    exact no (fun x => z x.1)
theorem M181 {g : KG} {h : KH} (K : MK g h) {t : Int → Int} {n p : Nat} (T : MP h t n p) {d : Nat} {Q : Option KV → KG → KH → Prop} (hb : ¬ sgnD t n p 59 → ∀ h2 : KH, FT h h2 → MF h2 (flt t n p 2) p → Q (some (xI 0)) g h2) (hQ : sgnD t n p 59 → ∀ h2 : KH, FT h h2 → MP h2 t n (nxt t n p) → Q (some (xI 1)) g h2) : Cl (d + 3) 181 [xR 138] g h Q := by
  rw [E181, ga K.k0]
  refine M177 K T ?_
  rw [o1, List.cons_append, List.nil_append, B181_6]
  by_cases y : sgnD t n p 59
  · rw [bzt y, if_pos (by decide), ga K.k0]
    refine M176 K T (fun h2 f2 j2 T2 => ?_)
    rw [o0, List.nil_append, B181_19, ga (by decide)]
    exact hQ y h2 f2 T2
  · rw [bzf y, if_neg (fun z => z rfl), ga K.k0]
    refine M179 K T (by decide) (fun h2 f2 F => ?_)
    rw [o1, List.cons_append, List.nil_append, B181_14, ga (by decide)]
    exact hb y h2 f2 F
/-- the memory's cells and the token slots may have changed -/
def FA (h h2 : KH) : Prop := (∀ a, a ≠ 138 → a ≠ 139 → h2 a = h a) ∧ ∀ j, (j < 11 ∨ 17 < j) → h2 138 j = h 138 j
theorem M182 {g : KG} {h : KH} (K : MK g h) {t : Int → Int} {n p : Nat} (T : MP h t n p) {to lo hi : Int} (hto : 0 ≤ to ∧ to < 4500) {d : Nat} {Q : Option KV → KG → KH → Prop} (hb : kd t n p ≠ 2 → ∀ h2 : KH, FT h h2 → MF h2 (flt t n p 2) p → Q (some (xI 0)) g h2) (hn : kd t n p = 2 → ¬ (lo ≤ nmv t n p ∧ nmv t n p ≤ hi) → ∀ h2 : KH, FT h h2 → MF h2 (flt t n p 4) p → Q (some (xI 0)) g h2) (hQ : kd t n p = 2 → lo ≤ nmv t n p ∧ nmv t n p ≤ hi → ∀ h2 : KH, FT (hset h 139 to (nmv t n p)) h2 → MP h2 t n (nxt t n p) → Q (some (xI 1)) g h2) : Cl (d + 3) 182 [xR 138, xI to, xI lo, xI hi] g h Q := by
  have e2 := mkd_2 t n p
  rw [E182, ga K.k0, T.mu.tk]
  by_cases z : kd t n p = 2
  · have v := T.mu.vl (Or.inl z)
    have bad : ¬ (lo ≤ nmv t n p ∧ nmv t n p ≤ hi) → Rn (d + 2) 182 30 [xR 138, xI to, xI lo, xI hi] [] g h Q := by
      intro y
      rw [B182_30, ga K.k0]
      refine M179 K T (by decide) (fun h2 f2 F => ?_)
      rw [o1, List.cons_append, List.nil_append, B182_35, ga (by decide)]
      exact hn z y h2 f2 F
    rw [if_pos (by rw [e2]; exact z), ga K.k0, v]
    by_cases z1 : nmv t n p < lo
    · rw [if_pos z1]; exact bad (by omega)
    · rw [if_neg z1, ga K.k0]
      by_cases z2 : nmv t n p ≤ hi
      · have K2 : MK g (hset h 139 to (nmv t n p)) := K.keep (fun j _ => by rw [hset_a _ _ _ (by decide)])
        have y8 : hset h 139 to (nmv t n p) 138 = h 138 := hset_a _ _ _ (by decide)
        have T2 : MP (hset h 139 to (nmv t n p)) t n p := ⟨T.mt.keep (by rw [y8]) (hset_a _ _ _ (by decide)), by rw [y8]; exact T.mu, by rw [y8]; exact T.fk, by rw [y8]; exact T.fp, by rw [y8]; exact T.fd⟩
        rw [if_pos z2, ga K.k0, ga K.k0, K.pat, ga ⟨K.kat, by decide, hto.1, by rw [K.lat]; exact hto.2⟩, ga K.k0]
        refine M176 K2 T2 (fun h2 f2 j2 T3 => ?_)
        rw [o0, List.nil_append, B182_50, ga (by decide)]
        exact hQ z ⟨by omega, z2⟩ h2 f2 T3
      · rw [if_neg z2]; exact bad (by omega)
  · rw [if_neg (fun y => z (by rw [e2] at y; exact y)), ga K.k0]
    refine M179 K T (by decide) (fun h2 f2 F => ?_)
    rw [o1, List.cons_append, List.nil_append, B182_13, ga (by decide)]
    exact hb z h2 f2 F
/-! words -/
theorem pkw_inj {t s : Int → Int} {p k : Nat} : ∀ a b : Nat, (∀ i : Nat, i < a → 97 ≤ t ((p + i : Nat) : Int) ∧ t ((p + i : Nat) : Int) ≤ 122) → (∀ i : Nat, i < b → 97 ≤ s ((k + i : Nat) : Int) ∧ s ((k + i : Nat) : Int) ≤ 122) → pkw t p a = pkw s k b → a = b ∧ ∀ i : Nat, i < a → t ((p + i : Nat) : Int) = s ((k + i : Nat) : Int) := by
  intro a
  induction a with
  | zero =>
    intro b ha hb e
    match b with
    | 0 => exact ⟨rfl, fun i hi => by omega⟩
    | b + 1 =>
      have r := pkw_r s k b (fun i hi => hb i (by omega))
      have c := hb b (by omega)
      unfold pkw at e
      omega
  | succ a ih =>
    intro b ha hb e
    have r1 := pkw_r t p a (fun i hi => ha i (by omega))
    have c1 := ha a (by omega)
    match b with
    | 0 =>
      unfold pkw at e
      omega
    | b + 1 =>
      have r2 := pkw_r s k b (fun i hi => hb i (by omega))
      have c2 := hb b (by omega)
      unfold pkw at e
      have x := ih b (fun i hi => ha i (by omega)) (fun i hi => hb i (by omega)) (by omega)
      refine ⟨by omega, fun i hi => ?_⟩
      by_cases y : i = a
      · rw [y]
        have := x.1
        subst this
        omega
      · exact x.2 i (by omega)
def chr (s : Int) (i : Int) : Int := (sby s).getD i.toNat 0
theorem kd_1 {t : Int → Int} {n p : Nat} (h : kd t n p = 1) : p < n ∧ ltr (t p) = true := by
  unfold kd at h
  split at h
  · omega
  · split at h
    · rename_i a b; exact ⟨by omega, b⟩
    · split at h
      · split at h <;> omega
      · split at h <;> omega
theorem wd_1 {t : Int → Int} {n p : Nat} (h : kd t n p = 1) : ed t n p = rnt ltr t n p ∧ p < rnt ltr t n p ∧ rnt ltr t n p ≤ n ∧ ∀ i : Nat, i < rnt ltr t n p - p → 97 ≤ t ((p + i : Nat) : Int) ∧ t ((p + i : Nat) : Int) ≤ 122 := by
  obtain ⟨h1, h2⟩ := kd_1 h
  have r := rnt_r ltr t (n := n) (n - p) p (by omega)
  have r2 := rnt_r ltr t (n := n) (n - (p + 1)) (p + 1) (by omega)
  refine ⟨?_, ?_, r.2.1, fun i hi => ?_⟩
  · unfold ed; rw [if_neg (by omega), if_pos h2]
  · rw [rnt_y h1 h2]; omega
  · have := r.2.2.1 (p + i) (by omega) (by omega)
    rw [ltr_i] at this
    exact this
/-- one word of a list of words -/
theorem W178 {g : KG} {h : KH} (K : MK g h) {t : Int → Int} {n p : Nat} (T : MP h t n p) (w1 : kd t n p = 1) {s : Int} (hs : s = -2 ∨ s = -3) (k e : Nat) (ke : k < e) (k8 : e ≤ k + 8) (le : e < (sby s).length) (l60 : (sby s).length ≤ 60) (hl : ∀ i : Nat, i < e - k → 97 ≤ chr s ((k + i : Nat) : Int) ∧ chr s ((k + i : Nat) : Int) ≤ 122) (he : chr s (e : Int) = 32) {m : Int} (hm : 0 ≤ m ∧ m < 60) {x4 x5 x6 : KV} {d : Nat} {Q : Option KV → KG → KH → Prop} (hy : wdv t n p = pkw (chr s) k (e - k) → Q (some (xI m)) g h) (hn : wdv t n p ≠ pkw (chr s) k (e - k) → ∀ y4 y5 y6 : KV, Rn (d + 1) 178 14 [xR 138, xR s, xI (m + 1), xI ((e + 1 : Nat) : Int), y4, y5, y6] [] g h Q) : Rn (d + 1) 178 14 [xR 138, xR s, xI m, xI (k : Int), x4, x5, x6] [] g h Q := by
  obtain ⟨ee, pe, en, lt⟩ := wd_1 w1
  have n7 := T.mt.n7
  -- what the word's being like means
  have inj := pkw_inj (t := t) (s := chr s) (p := p) (k := k) (rnt ltr t n p - p) (e - k) lt hl
  have wv : wdv t n p = pkw (chr s) k (e - k) ↔ (rnt ltr t n p - p = e - k ∧ ∀ i : Nat, i < e - k → t ((p + i : Nat) : Int) = chr s ((k + i : Nat) : Int)) := by
    have r := pkw_r (chr s) k (e - k) hl
    constructor
    · intro z
      unfold wdv at z
      by_cases l8 : rnt ltr t n p - p ≤ 8
      · rw [if_pos ⟨w1, l8⟩] at z
        have x := inj z
        exact ⟨x.1, fun i hi => x.2 i (by omega)⟩
      · rw [if_neg (fun y => l8 y.2)] at z
        obtain ⟨f, hf⟩ : ∃ f, e - k = f + 1 := ⟨e - k - 1, by omega⟩
        rw [hf] at z r hl
        have r2 := pkw_r (chr s) k f (fun i hi => hl i (by omega))
        have c := hl f (by omega)
        unfold pkw at z
        omega
    · intro z
      unfold wdv
      rw [if_pos ⟨w1, by omega⟩, z.1]
      have : ∀ f : Nat, f ≤ e - k → pkw t p f = pkw (chr s) k f := by
        intro f
        induction f with
        | zero => intro _; rfl
        | succ f ih =>
          intro hf
          unfold pkw
          rw [ih (by omega), z.2 f (by omega)]
      exact this _ (Nat.le_refl _)
  rw [B178_14, ga hs, if_neg (by omega)]
  -- the next space
  have sp : ∀ f i : Nat, i + f = e → k ≤ i → ∀ y5 y6 : KV, (∀ z5 z6 : KV, Rn (d + 1) 178 25 [xR 138, xR s, xI m, xI (k : Int), xI (e : Int), z5, z6] [] g h Q) → Rn (d + 1) 178 25 [xR 138, xR s, xI m, xI (k : Int), xI (i : Int), y5, y6] [] g h Q := by
    intro f
    induction f with
    | zero =>
      intro i hi ki y5 y6 q
      have hi : i = e := by omega
      rw [hi]; exact q y5 y6
    | succ f ih =>
      intro i hi ki y5 y6 q
      have c := hl (i - k) (by omega)
      rw [show k + (i - k) = i by omega] at c
      unfold chr at c
      rw [B178_25, ga ⟨hs, by omega, by omega⟩, if_neg (by omega), w32_id (by omega) (by omega)]
      exact ih (i + 1) (by omega) (by omega) y5 y6 q
  refine sp (e - k) k (by omega) (Nat.le_refl _) _ _ (fun z5 z6 => ?_)
  have he' := he
  unfold chr at he'
  rw [B178_25, ga ⟨hs, by omega, by omega⟩, if_pos he', ga K.k0, ga K.k0, T.mu.en, T.mu.fr, ee, w32_id (by omega) (by omega), w32_id (by omega) (by omega)]
  -- unlike
  have no : wdv t n p ≠ pkw (chr s) k (e - k) → ∀ y6 : Int, Rn (d + 1) 178 115 [xR 138, xR s, xI m, xI (k : Int), xI (e : Int), xI 0, xI y6] [] g h Q := by
    intro z y6
    rw [B178_115, if_pos rfl, w32_id (by omega) (by omega), w32_id (by omega) (by omega)]
    exact hn z _ _ _
  have no68 : wdv t n p ≠ pkw (chr s) k (e - k) → ∀ y6 : Int, Rn (d + 1) 178 68 [xR 138, xR s, xI m, xI (k : Int), xI (e : Int), xI 0, xI y6] [] g h Q := by
    intro z y6
    rw [B178_68]
    split
    · exact no z y6
    · rw [if_pos rfl]; exact no z y6
  by_cases hlen : rnt ltr t n p - p = e - k
  · rw [if_neg (by omega), B178_63]
    have lk : ∀ f i : Nat, i + f = e - k → (∀ j : Nat, j < i → t ((p + j : Nat) : Int) = chr s ((k + j : Nat) : Int)) → Rn (d + 1) 178 68 [xR 138, xR s, xI m, xI (k : Int), xI (e : Int), xI 1, xI ((k + i : Nat) : Int)] [] g h Q := by
      intro f
      induction f with
      | zero =>
        intro i hi hj
        rw [B178_68, if_pos (by omega), B178_115, if_neg (by decide)]
        exact hy (wv.2 ⟨hlen, fun j hj2 => hj j (by omega)⟩)
      | succ f ih =>
        intro i hi hj
        have li := lt i (by omega)
        have bi : byt t n ((p + i : Nat) : Int) = t ((p + i : Nat) : Int) := by
          unfold byt
          rw [if_neg (by omega)]
          unfold uby
          rw [if_neg (by omega)]
        rw [B178_68, if_neg (by omega), if_neg (by decide), ga ⟨hs, by omega, by omega⟩, ga K.k0, ga K.k0, T.mu.fr, w32_id (x := (p : Int) + ((k + i : Nat) : Int)) (by omega) (by omega), w32_id (by omega) (by omega), show (p : Int) + ((k + i : Nat) : Int) - (k : Int) = ((p + i : Nat) : Int) by omega]
        refine S173 K T.mt ?_
        rw [o1, List.cons_append, List.nil_append, B178_99, bi]
        have cc : (sby s).getD (Int.toNat ((k + i : Nat) : Int)) 0 = chr s ((k + i : Nat) : Int) := rfl
        rw [cc]
        by_cases y : t ((p + i : Nat) : Int) = chr s ((k + i : Nat) : Int)
        · rw [if_neg (by omega), B178_107, w32_id (by omega) (by omega)]
          exact ih (i + 1) (by omega) (fun j hj2 => by
            by_cases ej : j = i
            · rw [ej]; exact y
            · exact hj j (by omega))
        · rw [if_pos (by omega), B178_107]
          exact no68 (fun z => y ((wv.1 z).2 i (by omega))) _
    exact lk (e - k) 0 (by omega) (fun j hj => by omega)
  · rw [if_pos (by omega), B178_63]
    exact no68 (fun z => hlen (wv.1 z).1) _
