/-! what a rule says of a sheet; the class's judge -/
theorem and64_n {a b : Nat} {m : Int} (ha : a < 9223372036854775808) (hm : (BitVec.ofInt 64 m).toNat = b) : and64 (a : Int) m = ((a &&& b : Nat) : Int) := by
  unfold and64
  have e : (BitVec.ofInt 64 (a : Int) &&& BitVec.ofInt 64 m).toNat = a &&& b := by
    rw [BitVec.toNat_and, hm, BitVec.toNat_ofInt]
    have : ((a : Int) % ((2 ^ 64 : Nat) : Int)).toNat = a := by omega
    rw [this]
  have l : a &&& b ≤ a := Nat.and_le_left
  rw [BitVec.toInt_eq_toNat_of_lt (by rw [e]; omega), e]
theorem or64_n {a b : Nat} (ha : a < 9223372036854775808) (hb : b < 9223372036854775808) : or64 (a : Int) (b : Int) = ((a ||| b : Nat) : Int) := by
  unfold or64
  have e : (BitVec.ofInt 64 (a : Int) ||| BitVec.ofInt 64 (b : Int)).toNat = a ||| b := by
    rw [BitVec.toNat_or, BitVec.toNat_ofInt, BitVec.toNat_ofInt]
    have h1 : ((a : Int) % ((2 ^ 64 : Nat) : Int)).toNat = a := by omega
    have h2 : ((b : Int) % ((2 ^ 64 : Nat) : Int)).toNat = b := by omega
    rw [h1, h2]
  have l : a ||| b < 9223372036854775808 := Nat.or_lt_two_pow (n := 63) ha hb
  rw [BitVec.toInt_eq_toNat_of_lt (by rw [e]; omega), e]
theorem xor64_n {a b : Nat} (ha : a < 9223372036854775808) (hb : b < 9223372036854775808) : xor64 (a : Int) (b : Int) = ((a ^^^ b : Nat) : Int) := by
  unfold xor64
  have e : (BitVec.ofInt 64 (a : Int) ^^^ BitVec.ofInt 64 (b : Int)).toNat = a ^^^ b := by
    rw [BitVec.toNat_xor, BitVec.toNat_ofInt, BitVec.toNat_ofInt]
    have h1 : ((a : Int) % ((2 ^ 64 : Nat) : Int)).toNat = a := by omega
    have h2 : ((b : Int) % ((2 ^ 64 : Nat) : Int)).toNat = b := by omega
    rw [h1, h2]
  have l : a ^^^ b < 9223372036854775808 := Nat.xor_lt_two_pow (n := 63) ha hb
  rw [BitVec.toInt_eq_toNat_of_lt (by rw [e]; omega), e]
theorem lso2 {X Y x1 x2 y1 y2 : Nat} (hX : X = 2 * x2 + x1) (hY : Y = 2 * y2 + y1) (hx : x1 < 2) (hy : y1 < 2) : X ||| Y = 2 * (x2 ||| y2) + (x1 ||| y1) := by
  have e : (2 : Nat) ^ 1 = 2 := by decide
  have d := @Nat.or_div_two_pow X Y 1
  have m := @Nat.or_mod_two_pow X Y 1
  rw [e] at d m
  rw [show X / 2 = x2 by omega, show Y / 2 = y2 by omega] at d
  rw [show X % 2 = x1 by omega, show Y % 2 = y1 by omega] at m
  rw [← d, ← m]
  omega
theorem lsx2 {X Y x1 x2 y1 y2 : Nat} (hX : X = 2 * x2 + x1) (hY : Y = 2 * y2 + y1) (hx : x1 < 2) (hy : y1 < 2) : X ^^^ Y = 2 * (x2 ^^^ y2) + (x1 ^^^ y1) := by
  have e : (2 : Nat) ^ 1 = 2 := by decide
  have d := @Nat.xor_div_two_pow X Y 1
  have m := @Nat.xor_mod_two_pow X Y 1
  rw [e] at d m
  rw [show X / 2 = x2 by omega, show Y / 2 = y2 by omega] at d
  rw [show X % 2 = x1 by omega, show Y % 2 = y1 by omega] at m
  rw [← d, ← m]
  omega
/-- a stack of outcomes as bits -/
def vl : List Bool → Nat
  | [] => 0
  | b :: t => 2 * vl t + b.toNat
theorem vl_lt : ∀ L : List Bool, vl L < 2 ^ L.length := by
  intro L
  induction L with
  | nil => exact Nat.lt_succ_self 0
  | cons b t ih =>
    have : b.toNat ≤ 1 := Bool.toNat_le b
    rw [vl, List.length_cons, Nat.pow_succ']
    omega
theorem vl_40 {L : List Bool} (h : L.length ≤ 42) : vl L < 4398046511104 := Nat.lt_of_lt_of_le (vl_lt L) (Nat.le_trans (Nat.pow_le_pow_right (by decide) h) (show 2 ^ 42 ≤ 4398046511104 by decide))
theorem bt2 (b : Bool) : b.toNat < 2 := by cases b <;> decide
theorem vl_and1 (b : Bool) {t : List Bool} (h : (b :: t).length ≤ 42) : and64 (vl (b :: t) : Int) 1 = (b.toNat : Int) := by
  have l := vl_40 h
  rw [and64_n (b := 1) (by omega) (by decide), lsp2 (X := vl (b :: t)) (M := 1) (x1 := b.toNat) (x2 := vl t) (y1 := 1) (y2 := 0) rfl (by omega) (bt2 b) (by decide), Nat.and_zero]
  cases b <;> rfl
theorem vl_push {b : Bool} {t : List Bool} (h : t.length ≤ 41) : or64 (shl64 (vl t : Int) 1) (b.toNat : Int) = (vl (b :: t) : Int) := by
  have l := vl_40 (L := t) (by omega)
  have e : shl64 (vl t : Int) 1 = ((2 * vl t : Nat) : Int) := by
    unfold shl64
    rw [w64_id (by show (-9223372036854775808 : Int) ≤ (vl t : Int) * 2; omega) (by show (vl t : Int) * 2 ≤ 9223372036854775807; omega)]
    show (vl t : Int) * 2 = _
    omega
  rw [e, or64_n (by omega) (by have := bt2 b; omega), lso2 (X := 2 * vl t) (Y := b.toNat) (x1 := 0) (x2 := vl t) (y1 := b.toNat) (y2 := 0) rfl (by omega) (by decide) (bt2 b), Nat.or_zero, Nat.zero_or]
  rfl
theorem vl_not {b : Bool} {t : List Bool} (h : (b :: t).length ≤ 42) : xor64 (vl (b :: t) : Int) 1 = (vl ((!b) :: t) : Int) := by
  have l := vl_40 h
  have z := xor64_n (a := vl (b :: t)) (b := 1) (by omega) (by decide)
  rw [show ((1 : Nat) : Int) = 1 from rfl] at z
  rw [z, lsx2 (X := vl (b :: t)) (Y := 1) (x1 := b.toNat) (x2 := vl t) (y1 := 1) (y2 := 0) rfl (by omega) (bt2 b) (by decide), Nat.xor_zero]
  cases b <;> rfl
theorem vl_shr (b : Bool) (t : List Bool) : shr64 (vl (b :: t) : Int) 1 = (vl t : Int) := by
  unfold shr64
  show (vl (b :: t) : Int) / 2 = _
  have := bt2 b
  rw [vl]
  omega
theorem vl_or {x y : Bool} {t : List Bool} (h : (y :: t).length ≤ 41) : or64 (vl (y :: t) : Int) (x.toNat : Int) = (vl ((y || x) :: t) : Int) := by
  have l := vl_40 (L := y :: t) (by omega)
  rw [or64_n (by omega) (by have := bt2 x; omega), lso2 (X := vl (y :: t)) (Y := x.toNat) (x1 := y.toNat) (x2 := vl t) (y1 := x.toNat) (y2 := 0) rfl (by omega) (bt2 y) (bt2 x), Nat.or_zero]
  cases x <;> cases y <;> rfl
theorem vl_clr {y : Bool} {t : List Bool} (h : (y :: t).length ≤ 41) : and64 (vl (y :: t) : Int) (-2) = (vl (false :: t) : Int) := by
  have l := vl_40 (L := y :: t) (by omega)
  have l2 : vl t < 9223372036854775808 := by rw [vl] at l; omega
  have e : vl t &&& 9223372036854775807 = vl t := by
    have z := Nat.and_two_pow_sub_one_eq_mod (vl t) 63
    rw [show (2 : Nat) ^ 63 - 1 = 9223372036854775807 by decide, Nat.mod_eq_of_lt (show vl t < 2 ^ 63 by rw [show (2 : Nat) ^ 63 = 9223372036854775808 by decide]; exact l2)] at z
    exact z
  rw [and64_n (b := 18446744073709551614) (by omega) (by decide), lsp2 (X := vl (y :: t)) (M := 18446744073709551614) (x1 := y.toNat) (x2 := vl t) (y1 := 0) (y2 := 9223372036854775807) rfl (by omega) (bt2 y) (by decide), Nat.and_zero, e]
  rfl
/-- sheets of the same asker with a row -/
def St.sc (A : St) (s p : Int) : Nat → Int
  | 0 => 0
  | o + 1 => A.sc s p o + bz ((o : Int) ≠ s ∧ A.ask o = A.ask s ∧ A.pa o = p)
theorem sc_r (A : St) (s p : Int) : ∀ n : Nat, 0 ≤ A.sc s p n ∧ A.sc s p n ≤ n := by
  intro n
  induction n with
  | zero => exact ⟨Int.le_refl 0, Int.le_refl 0⟩
  | succ n ih =>
    have := @bzr ((n : Int) ≠ s ∧ A.ask n = A.ask s ∧ A.pa n = p) _
    unfold St.sc
    omega
def St.amb (A : St) (s : Int) (n : Nat) : Bool := (List.range n).any (fun i => decide (A.ams i s))
theorem amb_s (A : St) (s : Int) (n : Nat) : A.amb s (n + 1) = (A.amb s n || decide (A.ams n s)) := by
  unfold St.amb
  rw [List.range_succ, List.any_append]
  simp
theorem amb_up {A : St} {s : Int} {m k : Nat} (hk : k ≤ m) (h : A.amb s k = true) : A.amb s m = true := by
  unfold St.amb at h ⊢
  rw [List.any_eq_true] at h ⊢
  obtain ⟨x, hx, hp⟩ := h
  exact ⟨x, List.mem_range.mpr (Nat.lt_of_lt_of_le (List.mem_range.mp hx) hk), hp⟩
def St.say (A : St) (s p op nm : Int) : Bool := if op = 4 then decide (nm ≤ A.sc s p A.ns.toNat) else if op = 5 then decide (A.tt s - A.fr s < nm) else if op = 6 then decide (nm < A.tt s) else if op = 7 then decide (A.prod A.nq p < nm) else if op = 8 then decide (nm ≤ pmade (A.mside s p 8) (A.aside s p 8) 16) else if op = 9 then decide (A.cd s = nm) else A.amb s A.ns.toNat
def stq (op : Int) (b : Bool) (st : List Bool) : List Bool := if 3 < op then b :: st else if op = 3 then (match st with | x :: t => (!x) :: t | [] => []) else (match st with | x :: y :: t => (if op = 2 then y && x else y || x) :: t | t => t)
def St.evl (A : St) (s p r0 : Int) : Nat → List Bool
  | 0 => []
  | n + 1 => stq (A.op (r0 + n)) (A.say s p (A.op (r0 + n)) (A.nm (r0 + n))) (A.evl s p r0 n)
def St.flg (A : St) (s p u : Int) : Bool := (A.evl s p (A.rs u) (A.rs (u + 1) - A.rs u).toNat).headD false
theorem evl_len {A : St} (O : A.Ok) (s p : Int) {u : Int} (hu : 0 ≤ u ∧ u < A.nr) : ∀ n : Nat, A.rs u + n ≤ A.rs (u + 1) → ((A.evl s p (A.rs u) n).length : Int) = A.dp u (A.rs u + n) := by
  have D := O.dp u hu.1 hu.2
  have R := O.rsp.2.2 u hu.1 (by omega)
  have R2 := O.rsp.2.2 (u + 1) (by omega) (by omega)
  intro n
  induction n with
  | zero => intro _; rw [St.evl, show A.rs u + ((0 : Nat) : Int) = A.rs u by omega, D.1]; rfl
  | succ n ih =>
    intro hn
    have i := ih (by omega)
    obtain ⟨d1, d2, d3, d4, d5⟩ := D.2.2 (A.rs u + n) (by omega) (by omega)
    have o := O.op (A.rs u + n) (by omega) (by omega)
    have e : A.rs u + ((n + 1 : Nat) : Int) = A.rs u + n + 1 := by omega
    rw [St.evl, e]
    generalize A.evl s p (A.rs u) n = L at *
    generalize A.say s p (A.op (A.rs u + n)) (A.nm (A.rs u + n)) = b
    unfold stq
    by_cases h1 : 3 < A.op (A.rs u + n)
    · rw [if_pos h1, List.length_cons]; have := d3 h1; omega
    · rw [if_neg h1]
      by_cases h2 : A.op (A.rs u + n) = 3
      · rw [if_pos h2]
        have := d4 h2
        cases L with
        | nil => simp only [List.length_nil] at i; omega
        | cons x t => simp only [List.length_cons] at i ⊢; omega
      · rw [if_neg h2]
        have := d5 (by omega)
        cases L with
        | nil => simp only [List.length_nil] at i; omega
        | cons x t =>
          cases t with
          | nil => simp only [List.length_cons, List.length_nil] at i; omega
          | cons y t => simp only [List.length_cons] at i ⊢; omega
/-- the judge's view of a sheet; with a row -/
def JV (h : KH) (A : St) (s : Int) : Prop := (h 35 1 = s) ∧ (h 35 2 = A.tt s - A.fr s) ∧ (h 35 3 = A.tt s) ∧ (h 35 4 = A.cd s) ∧ (h 35 5 = bz (A.amb s A.ns.toNat = true))
theorem JV.s1 {h : KH} {A : St} {s : Int} (z_ : JV h A s) : h 35 1 = s := z_.1
theorem JV.s2 {h : KH} {A : St} {s : Int} (z_ : JV h A s) : h 35 2 = A.tt s - A.fr s := z_.2.1
theorem JV.s3 {h : KH} {A : St} {s : Int} (z_ : JV h A s) : h 35 3 = A.tt s := z_.2.2.1
theorem JV.s4 {h : KH} {A : St} {s : Int} (z_ : JV h A s) : h 35 4 = A.cd s := z_.2.2.2.1
theorem JV.s5 {h : KH} {A : St} {s : Int} (z_ : JV h A s) : h 35 5 = bz (A.amb s A.ns.toNat = true) := z_.2.2.2.2
def JP (h : KH) (A : St) (s p : Int) : Prop := (h 35 6 = A.sc s p A.ns.toNat) ∧ (h 35 7 = A.prod A.nq p) ∧ (h 35 8 = pmade (A.mside s p 8) (A.aside s p 8) 16)
theorem JP.s6 {h : KH} {A : St} {s p : Int} (z_ : JP h A s p) : h 35 6 = A.sc s p A.ns.toNat := z_.1
theorem JP.s7 {h : KH} {A : St} {s p : Int} (z_ : JP h A s p) : h 35 7 = A.prod A.nq p := z_.2.1
theorem JP.s8 {h : KH} {A : St} {s p : Int} (z_ : JP h A s p) : h 35 8 = pmade (A.mside s p 8) (A.aside s p 8) 16 := z_.2.2
section JUDGE
variable {g : KG} {h : KH} {l r : Int} {A : St} {d : Nat} {Q : Option KV → KG → KH → Prop}
theorem S11 (J : CJ g h) (S : SR g h 6 l r A) (hl : l = 7 ∨ l = 39) (hr : r = 20 ∨ r = 52) (O : A.Ok) {s : Int} (hs : ins A s) (hQ : ∀ h2 : KH, JV h2 A s → (∀ c, c ≠ 35 → h2 c = h c) → h2 35 0 = 6 → Q none g h2) : Cl (d + 5) 11 [xR 35, xI s] g h Q := by
  have h16 := O.ns
  have s0 := hs.1
  have s1 := hs.2
  have hfr := O.fr s hs
  have htt := O.tt s hs
  simp (disch := omega) only [E11, J.k35, hset_e, hset_i, hset_a, J.p35, S.k0, S.n6, S.n5, S.m25, S.w25, S.m26, S.w26, S.v25 s hs, S.v26 s hs, true_and, ga, w32_id]
  simp (disch := omega) only [B11_34, B11_66, J.k35, hset_e, hset_i, hset_a, J.p35, S.k0, S.n6, S.n8, S.m28, S.w28, S.m26, S.w26, S.v28 s hs, S.v26 s hs, true_and, ga]
  generalize eA : hset (hset (hset (hset (hset h 35 1 s) 35 2 (A.tt s - A.fr s)) 35 3 (A.tt s)) 35 4 (A.cd s)) 35 5 0 = hA
  have kA : ∀ c, c ≠ 35 → hA c = h c := fun c hc => by rw [← eA]; simp (disch := omega) only [hset_a]
  have v0 : hA 35 0 = 6 := by rw [← eA]; simp (disch := omega) only [hset_i]; exact J.p35
  have v1 : hA 35 1 = s := by rw [← eA]; simp (disch := omega) only [hset_i, hset_e]
  have v2 : hA 35 2 = A.tt s - A.fr s := by rw [← eA]; simp (disch := omega) only [hset_i, hset_e]
  have v3 : hA 35 3 = A.tt s := by rw [← eA]; simp (disch := omega) only [hset_i, hset_e]
  have v4 : hA 35 4 = A.cd s := by rw [← eA]; simp (disch := omega) only [hset_i, hset_e]
  have v5 : hA 35 5 = 0 := by rw [← eA]; simp (disch := omega) only [hset_e]
  have lp : ∀ n k : Nat, k + n = A.ns.toNat → ∀ h1 : KH, (∀ c, c ≠ 35 → h1 c = h c) → (∀ j, j ≠ 5 → h1 35 j = hA 35 j) → h1 35 5 = bz (A.amb s k = true) → Rn (d + 4) 11 73 [xR 35, xI s, xI (k : Int)] [] g h1 Q := by
    intro n
    induction n with
    | zero =>
      intro k hk h1 q1 q2 q3
      have hk : k = A.ns.toNat := by omega
      rw [B11_73, ga J.k35, q2 0 (by decide), v0, ga S.k0, q1 6 (by decide), S.ns, if_pos (by omega), B11_113]
      exact hQ h1 ⟨by rw [q2 1 (by decide)]; exact v1, by rw [q2 2 (by decide)]; exact v2, by rw [q2 3 (by decide)]; exact v3, by rw [q2 4 (by decide)]; exact v4, by rw [q3, hk]⟩ q1 (by rw [q2 0 (by decide)]; exact v0)
    | succ n ih =>
      intro k hk h1 q1 q2 q3
      have hi : ins A k := ⟨by omega, by omega⟩
      have e1 : ((k : Int) + 1) = ((k + 1 : Nat) : Int) := by omega
      have S1 : SR g h1 6 l r A := S.now hl hr (fun c _ _ _ => q1 c (by omega))
      rw [B11_73, ga J.k35, q2 0 (by decide), v0, ga S.k0, q1 6 (by decide), S.ns, if_neg (by omega), ga J.k35, q3]
      by_cases hb : A.amb s k = true
      · rw [bzt hb, if_pos (by decide), B11_113]
        exact hQ h1 ⟨by rw [q2 1 (by decide)]; exact v1, by rw [q2 2 (by decide)]; exact v2, by rw [q2 3 (by decide)]; exact v3, by rw [q2 4 (by decide)]; exact v4, by rw [q3, bzt hb, bzt (amb_up (by omega) hb)]⟩ q1 (by rw [q2 0 (by decide)]; exact v0)
      · rw [bzf hb, if_neg (fun z => z rfl), ga J.k35, ga J.k35, ga S.k0, q2 1 (by decide), v1]
        have hb2 : A.amb s k = false := by cases hx : A.amb s k; rfl; exact absurd hx hb
        refine S60 S1 O hi hs ?_
        rw [o1, List.cons_append, List.nil_append, B11_104, ga ⟨J.k35, bzr.1, bzr.2⟩, w32_id (by omega) (by omega), e1]
        refine ih (k + 1) (by omega) _ (fun c hc => by rw [hset_a _ _ _ hc, q1 c hc]) (fun j hj => by rw [hset_i _ _ hj, q2 j hj]) ?_
        rw [hset_e, amb_s, hb2, Bool.false_or]
        exact bzc (by rw [decide_eq_true_iff])
  exact lp A.ns.toNat 0 (by omega) hA kA (fun _ _ => rfl) v5
theorem S12 (J : CJ g h) (S : SR g h 6 l r A) (hl : l = 7 ∨ l = 39) (hr : r = 20 ∨ r = 52) (O : A.Ok) {s p : Int} (hs : ins A s) (hp : A.row p) (V : JV h A s) (hQ : ∀ h2 : KH, JV h2 A s → JP h2 A s p → (∀ c, c ≠ 35 → h2 c = h c) → h2 35 0 = 6 → Q none g h2) : Cl (d + 5) 12 [xR 35, xI p] g h Q := by
  have h16 := O.ns
  have s0 := hs.1
  have s1 := hs.2
  have lp : ∀ n k : Nat, k + n = A.ns.toNat → ∀ h1 : KH, (∀ c, c ≠ 35 → h1 c = h c) → (∀ j, j ≠ 6 → h1 35 j = h 35 j) → h1 35 6 = A.sc s p k → Rn (d + 4) 12 7 [xR 35, xI p, xI (k : Int)] [] g h1 Q := by
    intro n
    induction n with
    | zero =>
      intro k hk h1 q1 q2 q3
      have hk : k = A.ns.toNat := by omega
      have S1 : SR g h1 6 l r A := S.now hl hr (fun c _ _ _ => q1 c (by omega))
      have b1 := O.mside (s := s) hp (sh := 8) (by decide)
      have b2 := O.aside (s := s) hp (sh := 8) (by decide)
      rw [B12_7, ga J.k35, q2 0 (by decide), J.p35, ga S.k0, S1.ns, if_pos (by omega), ga J.k35, ga S.k0, S1.pl, ga S.L.k0]
      refine S21 S1.L O hp ?_
      rw [O.prod6, o1, List.cons_append, List.nil_append, B12_93, ga J.k35, ga J.k35, ga J.k35]
      generalize eB : hset h1 35 7 (A.prod A.nq p) = hB
      have k1 : ∀ c, c ≠ 35 → hB c = h c := fun c hc => by rw [← eB, hset_a _ _ _ hc, q1 c hc]
      have k2 : ∀ j, j ≠ 7 → hB 35 j = h1 35 j := fun j hj => by rw [← eB, hset_i _ _ hj]
      have k3 : hB 35 7 = A.prod A.nq p := by rw [← eB, hset_e]
      have SB : SR g hB 6 l r A := S.now hl hr (fun c _ _ _ => k1 c (by omega))
      rw [k2 0 (by decide), q2 0 (by decide), J.p35, k2 1 (by decide), q2 1 (by decide), V.s1, ga S.k0]
      refine S56 SB O hs hp (by decide) ?_
      rw [o1, List.cons_append, List.nil_append, B12_111, ga J.k35, ga J.k35, k2 0 (by decide), q2 0 (by decide), J.p35, k2 1 (by decide), q2 1 (by decide), V.s1, ga S.k0]
      refine S57 SB O hs hp (by decide) ?_
      rw [o1, List.cons_append, List.nil_append, B12_125]
      refine S148 ⟨b1.2.2.1, b1.2.2.2⟩ ⟨b2.2.2.1, b2.2.2.2⟩ (by decide) ?_
      rw [o1, List.cons_append, List.nil_append, B12_130, ga J.k35]
      have z : ∀ j, j ≠ 6 → j ≠ 7 → j ≠ 8 → (hset hB 35 8 (pmade (A.mside s p 8) (A.aside s p 8) 16)) 35 j = h 35 j := fun j j6 j7 j8 => by rw [hset_i _ _ j8, k2 j j7, q2 j j6]
      refine hQ _ ⟨by rw [z 1 (by decide) (by decide) (by decide)]; exact V.s1, by rw [z 2 (by decide) (by decide) (by decide)]; exact V.s2, by rw [z 3 (by decide) (by decide) (by decide)]; exact V.s3, by rw [z 4 (by decide) (by decide) (by decide)]; exact V.s4, by rw [z 5 (by decide) (by decide) (by decide)]; exact V.s5⟩ ⟨?_, ?_, hset_e _ _ _ _⟩ (fun c hc => by rw [hset_a _ _ _ hc, k1 c hc]) (by rw [z 0 (by decide) (by decide) (by decide)]; exact J.p35)
      · rw [hset_i _ _ (by decide), k2 6 (by decide), q3, hk]
      · rw [hset_i _ _ (by decide), k3]
    | succ n ih =>
      intro k hk h1 q1 q2 q3
      have hi : ins A k := ⟨by omega, by omega⟩
      have e1 : ((k : Int) + 1) = ((k + 1 : Nat) : Int) := by omega
      have S1 : SR g h1 6 l r A := S.now hl hr (fun c _ _ _ => q1 c (by omega))
      have sr := sc_r A s p k
      have nx := ih (k + 1) (by omega)
      have skip : ¬ ((k : Int) ≠ s ∧ A.ask k = A.ask s ∧ A.pa k = p) → Rn (d + 4) 12 73 [xR 35, xI p, xI (k : Int)] [] g h1 Q := by
        intro z
        rw [B12_73, w32_id (by omega) (by omega), e1]
        exact nx h1 q1 q2 (by rw [St.sc, bzf z, Int.add_zero]; exact q3)
      rw [B12_7, ga J.k35, q2 0 (by decide), J.p35, ga S.k0, S1.ns, if_neg (by omega), ga J.k35, q2 1 (by decide), V.s1]
      by_cases hks : (k : Int) = s
      · rw [if_pos hks]; exact skip (fun z => z.1 hks)
      · rw [if_neg hks, ga J.k35, ga S.k0, S1.n3, ga ⟨S.m23, by omega, by rw [S.w23]; omega⟩, ga J.k35, ga S.k0, ga J.k35, ga ⟨S.m23, by omega, by rw [S.w23]; omega⟩, S1.v23 k hi, S1.v23 s hs]
        by_cases ha : A.ask k = A.ask s
        · rw [if_neg (fun z => z ha), ga J.k35, ga S.k0, S1.n7, ga ⟨S.m27, by omega, by rw [S.w27]; omega⟩, S1.v27 k hi]
          by_cases hpa : A.pa k = p
          · rw [if_neg (fun z => z hpa), ga J.k35, ga J.k35, B12_73, q3, w32_id (by omega) (by omega), w32_id (by omega) (by omega), e1]
            exact nx _ (fun c hc => by rw [hset_a _ _ _ hc, q1 c hc]) (fun j hj => by rw [hset_i _ _ hj, q2 j hj]) (by rw [hset_e, St.sc, bzt ⟨hks, ha, hpa⟩])
          · rw [if_pos hpa]; exact skip (fun z => hpa z.2.2)
        · rw [if_pos ha]; exact skip (fun z => ha z.2.1)
  rw [E12, ga J.k35]
  exact lp A.ns.toNat 0 (by omega) _ (fun c hc => hset_a _ _ _ hc) (fun j hj => hset_i _ _ hj) (hset_e _ _ _ _)
theorem S14 (J : CJ g h) {s p op nm : Int} (V : JV h A s) (P : JP h A s p) (ho : 4 ≤ op ∧ op ≤ 10) (hQ : Q (some (xI ((A.say s p op nm).toNat : Int))) g h) : Cl (d + 1) 14 [xR 35, xI (op - 3), xI nm] g h Q := by
  have fin : ∀ (c : Prop) [Decidable c], A.say s p op nm = decide c → Q (some (xI (if c then 1 else 0))) g h := by
    intro c _ hc
    rw [hc] at hQ
    by_cases h1 : c
    · rw [if_pos h1]; rw [decide_eq_true h1] at hQ; exact hQ
    · rw [if_neg h1]; rw [decide_eq_false h1] at hQ; exact hQ
  have : op = 4 ∨ op = 5 ∨ op = 6 ∨ op = 7 ∨ op = 8 ∨ op = 9 ∨ op = 10 := by omega
  rw [E14]
  rcases this with rfl | rfl | rfl | rfl | rfl | rfl | rfl
  · have f := fin (nm ≤ A.sc s p A.ns.toNat) rfl
    simp only [Int.reduceSub, Sw_cons, Sw_nil, ite_not, bzF, bzT, if_true, if_false, ↓reduceIte, Int.reduceEq, Int.reduceLE, Int.reduceLT, Int.reduceNeg, ne_eq, not_true_eq_false, not_false_eq_true, and_self, and_true, true_and, and_false, false_and, eq_self, B14_40, J.k35, P.s6, B14_53]
    by_cases hc : nm ≤ A.sc s p A.ns.toNat
    · rw [if_pos hc] at f; rw [if_neg (by omega)]; exact f
    · rw [if_neg hc] at f; rw [if_pos (by omega)]; exact f
  · have f := fin (A.tt s - A.fr s < nm) rfl
    simp only [Int.reduceSub, Sw_cons, Sw_nil, ite_not, bzF, bzT, if_true, if_false, ↓reduceIte, Int.reduceEq, Int.reduceLE, Int.reduceLT, Int.reduceNeg, ne_eq, not_true_eq_false, not_false_eq_true, and_self, and_true, true_and, and_false, false_and, eq_self, B14_54, J.k35, V.s2, B14_67]
    by_cases hc : A.tt s - A.fr s < nm
    · rw [if_pos hc] at f; rw [if_neg (by omega)]; exact f
    · rw [if_neg hc] at f; rw [if_pos (by omega)]; exact f
  · have f := fin (nm < A.tt s) rfl
    simp only [Int.reduceSub, Sw_cons, Sw_nil, ite_not, bzF, bzT, if_true, if_false, ↓reduceIte, Int.reduceEq, Int.reduceLE, Int.reduceLT, Int.reduceNeg, ne_eq, not_true_eq_false, not_false_eq_true, and_self, and_true, true_and, and_false, false_and, eq_self, B14_68, J.k35, V.s3, B14_81]
    by_cases hc : nm < A.tt s
    · rw [if_pos hc] at f; rw [if_neg (by omega)]; exact f
    · rw [if_neg hc] at f; rw [if_pos (by omega)]; exact f
  · have f := fin (A.prod A.nq p < nm) rfl
    simp only [Int.reduceSub, Sw_cons, Sw_nil, ite_not, bzF, bzT, if_true, if_false, ↓reduceIte, Int.reduceEq, Int.reduceLE, Int.reduceLT, Int.reduceNeg, ne_eq, not_true_eq_false, not_false_eq_true, and_self, and_true, true_and, and_false, false_and, eq_self, B14_82, J.k35, P.s7, B14_95]
    by_cases hc : A.prod A.nq p < nm
    · rw [if_pos hc] at f; rw [if_neg (by omega)]; exact f
    · rw [if_neg hc] at f; rw [if_pos (by omega)]; exact f
  · have f := fin (nm ≤ pmade (A.mside s p 8) (A.aside s p 8) 16) rfl
    simp only [Int.reduceSub, Sw_cons, Sw_nil, ite_not, bzF, bzT, if_true, if_false, ↓reduceIte, Int.reduceEq, Int.reduceLE, Int.reduceLT, Int.reduceNeg, ne_eq, not_true_eq_false, not_false_eq_true, and_self, and_true, true_and, and_false, false_and, eq_self, B14_96, J.k35, P.s8, B14_111, c64lt]
    by_cases hc : nm ≤ pmade (A.mside s p 8) (A.aside s p 8) 16
    · rw [if_pos hc] at f; rw [if_neg (by omega)]; exact f
    · rw [if_neg hc] at f; rw [if_pos (by omega)]; exact f
  · have f := fin (A.cd s = nm) rfl
    simp only [Int.reduceSub, Sw_cons, Sw_nil, ite_not, bzF, bzT, if_true, if_false, ↓reduceIte, Int.reduceEq, Int.reduceLE, Int.reduceLT, Int.reduceNeg, ne_eq, not_true_eq_false, not_false_eq_true, and_self, and_true, true_and, and_false, false_and, eq_self, B14_112, J.k35, V.s4, B14_125]
    by_cases hc : A.cd s = nm
    · rw [if_pos hc] at f; rw [if_pos hc]; exact f
    · rw [if_neg hc] at f; rw [if_neg hc]; exact f
  · have e : A.say s p 10 nm = A.amb s A.ns.toNat := rfl
    rw [e] at hQ
    simp only [Int.reduceSub, Sw_cons, Sw_nil, ite_not, bzF, bzT, if_true, if_false, ↓reduceIte, Int.reduceEq, Int.reduceLE, Int.reduceLT, Int.reduceNeg, ne_eq, not_true_eq_false, not_false_eq_true, and_self, and_true, true_and, and_false, false_and, eq_self, B14_126, J.k35, V.s5]
    rw [ga bzr]
    have e2 : bz (A.amb s A.ns.toNat = true) = ((A.amb s A.ns.toNat).toNat : Int) := by
      cases A.amb s A.ns.toNat
      · exact bzf (by decide)
      · exact bzt rfl
    rw [e2]; exact hQ
end JUDGE
