/-! the nearest row that hides -/
def fstN (P : Nat → Bool) : Nat → Option Nat
  | 0 => none
  | n + 1 => match fstN P n with
    | some k => some k
    | none => if P n then some n else none
theorem fstN_sn {P : Nat → Bool} {n : Nat} (h : fstN P n = none) : fstN P (n + 1) = if P n then some n else none := by rw [fstN, h]
theorem fstN_ss {P : Nat → Bool} {n k : Nat} (h : fstN P n = some k) : fstN P (n + 1) = some k := by rw [fstN, h]
theorem fstN_none {P : Nat → Bool} : ∀ n, fstN P n = none ↔ ∀ k, k < n → P k = false := by
  intro n
  induction n with
  | zero => exact ⟨fun _ k h => by omega, fun _ => rfl⟩
  | succ n ih =>
    cases h : fstN P n with
    | none =>
      rw [fstN_sn h]
      have i := ih.mp h
      cases hp : P n
      · refine ⟨fun _ k hk => ?_, fun _ => rfl⟩
        by_cases e : k = n
        · rw [e]; exact hp
        · exact i k (by omega)
      · exact ⟨fun z => (by rw [if_pos rfl] at z; cases z), fun z => (by have := z n (Nat.lt_succ_self n); rw [hp] at this; cases this)⟩
    | some k =>
      rw [fstN_ss h]
      refine ⟨fun z => (by cases z), fun z => ?_⟩
      have := ih.mpr (fun j hj => z j (by omega))
      rw [h] at this; cases this
theorem fstN_some {P : Nat → Bool} : ∀ n k, fstN P n = some k → k < n ∧ P k = true ∧ ∀ j, j < k → P j = false := by
  intro n
  induction n with
  | zero => intro k h; cases h
  | succ n ih =>
    intro k h
    cases hn : fstN P n with
    | none =>
      rw [fstN_sn hn] at h
      have i := (fstN_none n).mp hn
      cases hp : P n
      · rw [hp, if_neg (by decide)] at h; cases h
      · rw [hp, if_pos rfl] at h
        have e : n = k := Option.some.inj h
        rw [← e]
        exact ⟨Nat.lt_succ_self n, hp, i⟩
    | some j =>
      rw [fstN_ss hn] at h
      have z := ih k (by rw [hn]; exact h)
      exact ⟨by omega, z.2⟩
theorem fstN_is {P : Nat → Bool} {n k : Nat} (h1 : k < n) (h2 : P k = true) (h3 : ∀ j, j < k → P j = false) : fstN P n = some k := by
  cases h : fstN P n with
  | none => have := (fstN_none n).mp h k h1; rw [h2] at this; cases this
  | some j =>
    obtain ⟨j1, j2, j3⟩ := fstN_some n j h
    by_cases e1 : j < k
    · have := h3 j e1; rw [j2] at this; cases this
    · by_cases e2 : k < j
      · have := j3 k e2; rw [h2] at this; cases this
      · rw [show j = k by omega]
/-- one more block of r -/
theorem fstN_blk {P : Nat → Bool} {r c : Nat} (h : fstN P (c * r) = none) : fstN P ((c + 1) * r) = (fstN (fun k => P (c * r + k)) r).map (fun k => c * r + k) := by
  have i := (fstN_none _).mp h
  cases hb : fstN (fun k => P (c * r + k)) r with
  | none =>
    have j := (fstN_none _).mp hb
    show _ = none
    rw [fstN_none]
    intro k hk
    rw [Nat.succ_mul] at hk
    by_cases hk2 : k < c * r
    · exact i k hk2
    · have := j (k - c * r) (by omega)
      rw [show c * r + (k - c * r) = k by omega] at this
      exact this
  | some k =>
    obtain ⟨j1, j2, j3⟩ := fstN_some _ _ hb
    show _ = some (c * r + k)
    refine fstN_is (by rw [Nat.succ_mul]; omega) j2 (fun m hm => ?_)
    by_cases hm2 : m < c * r
    · exact i m hm2
    · have := j3 (m - c * r) (by omega)
      rw [show c * r + (m - c * r) = m by omega] at this
      exact this
def St.hcd (A : St) (s u : Int) (n q : Nat) (p o : Int) (k : Nat) : Bool := decide (dif (A.pa s) (A.pk n q k p) A.nq.toNat = dif (A.pa s) p q + o) && !(A.flg s (A.pk n q k p) u)
def St.hfs (A : St) (s u : Int) (n q : Nat) (p o : Int) : Option Nat := fstN (A.hcd s u n q p o) (A.nrw n q)
def St.rwo (A : St) (n q : Nat) (p : Int) : Option Nat → Int
  | none => -1
  | some k => A.pk n q k p
def St.nea (A : St) (s u : Int) : Nat → Int → Option Nat
  | 0, _ => none
  | m + 1, o => match A.hfs s u A.nq.toNat 0 0 o with
    | some k => some k
    | none => A.nea s u m (o + 1)
def St.gbn (A : St) (r0 : Int) : Nat → Bool
  | 0 => false
  | n + 1 => A.gbn r0 n || decide (A.op (r0 + n) = 4 ∨ A.op (r0 + n) = 7 ∨ A.op (r0 + n) = 8)
def St.gby (A : St) (u : Int) : Bool := A.gbn (A.rs u) (A.rs (u + 1) - A.rs u).toNat
def St.hid (A : St) (s u : Int) : Option Nat := A.nea s u ((if A.gby u = true then A.nq.toNat else 0) + 1) 0
theorem dif_con {w p r : Int} : ∀ n : Nat, (∀ j : Nat, j < n → dg p j = dg r j) → dif w p n = dif w r n := by
  intro n
  induction n with
  | zero => intro _; rfl
  | succ n ih => intro H; rw [dif, dif, ih (fun j hj => H j (by omega)), H n (by omega)]
theorem dif_more (p r : Int) (n : Nat) : ∀ m : Nat, dif p r n ≤ dif p r (n + m) ∧ dif p r (n + m) ≤ dif p r n + m := by
  intro m
  induction m with
  | zero => exact ⟨Int.le_refl _, by rw [Nat.add_zero]; omega⟩
  | succ m ih =>
    rw [← Nat.add_assoc, dif]
    split <;> omega
theorem hcd_r {A : St} (O : A.Ok) {s u p o : Int} {n q k : Nat} (hq : q + n = A.nq.toNat) (hp : A.row p) (hk : k < A.nrw n q) (h : A.hcd s u n q p o k = true) : 0 ≤ o ∧ o ≤ n := by
  unfold St.hcd at h
  rw [Bool.and_eq_true, decide_eq_true_iff] at h
  have e := dif_con (w := A.pa s) q (pk_lo O n q k p hq hp hk)
  have m := dif_more (A.pa s) (A.pk n q k p) q n
  rw [hq, e] at m
  omega
theorem hcd_step {A : St} (O : A.Ok) {s u p o : Int} {n q a k : Nat} (hq : q + (n + 1) = A.nq.toNat) (hp : A.row p) (ha : (a : Int) < A.ch q) (hk : k < A.nrw n (q + 1)) : A.hcd s u (n + 1) q p o (a * A.nrw n (q + 1) + k) = A.hcd s u n (q + 1) (wa p q a) (o - (if (a : Int) = dg (A.pa s) q then 0 else 1)) k := by
  have h6 := O.nq
  have c := O.ch q ⟨by omega, by omega⟩
  have r1 := nrw_r O n (q + 1) (by omega)
  unfold St.hcd
  rw [St.pk]
  have e1 : (a * A.nrw n (q + 1) + k) % A.nrw n (q + 1) = k := by rw [Nat.mul_add_mod_self_right, Nat.mod_eq_of_lt hk]
  have e2 : (a * A.nrw n (q + 1) + k) / A.nrw n (q + 1) = a := by rw [Nat.mul_comm, Nat.mul_add_div (by omega), Nat.div_eq_of_lt hk, Nat.add_zero]
  rw [e1, e2]
  congr 1
  have e3 : dif (A.pa s) (wa p q a) (q + 1) = dif (A.pa s) p q + (if (a : Int) = dg (A.pa s) q then 0 else 1) := by
    rw [dif, wa_e hp.1 hp.2.1 (by omega) (by omega) (by omega) (by omega)]
    rw [dif_con (p := wa p q a) (r := p) q (fun j hj => wa_n hp.1 hp.2.1 (by omega) (by omega) (by omega) (by omega) (by omega) (by omega) (by omega))]
    congr 1
    by_cases e : (a : Int) = dg (A.pa s) q
    · rw [if_pos e, if_pos e.symm]
    · rw [if_neg e, if_neg (fun z => e z.symm)]
  rw [e3]
  congr 1
  exact propext ⟨fun z => by omega, fun z => by omega⟩
section HIDE
variable {g : KG} {l r : Int} {A : St}
theorem S10 (S : ∀ h : KH, (∃ h0, SR g h0 6 l r A ∧ ∀ c, c ≠ 35 → h c = h0 c) → SR g h 6 l r A) (J : gK g 35 = 2) (hl : l = 7 ∨ l = 39) (hr : r = 20 ∨ r = 52) (O : A.Ok) {s u : Int} (hs : ins A s) (hu : 0 ≤ u ∧ u < A.nr) : ∀ (n q : Nat) (p o : Int) (d : Nat) (h : KH) (Q : Option KV → KG → KH → Prop), q + n = A.nq.toNat → A.row p → (-1 ≤ o ∧ o ≤ 6) → SR g h 6 l r A → JV h A s → h 35 0 = 6 → (∀ h2 : KH, JV h2 A s → (∀ c, c ≠ 35 → h2 c = h c) → h2 35 0 = 6 → Q (some (xI (A.rwo n q p (A.hfs s u n q p o)))) g h2) → Cl (d + n + 6) 10 [xR 35, xI u, xI (q : Int), xI p, xI o] g h Q := by
  have h6 := O.nq
  have h16 := O.ns
  have s0 := hs.1
  have s1 := hs.2
  have hl0 : 0 ≤ l := by omega
  intro n
  induction n with
  | zero =>
    intro q p o d h Q hq hp ho S1 V h35 hQ
    have hq : q = A.nq.toNat := by omega
    have one : A.nrw 0 q = 1 := rfl
    have hc : A.hcd s u 0 q p o 0 = (decide (o = 0) && !(A.flg s p u)) := by
      unfold St.hcd
      rw [St.pk, ← hq]
      congr 1
      by_cases hz : o = 0
      · rw [decide_eq_true hz, decide_eq_true (by omega)]
      · rw [decide_eq_false hz, decide_eq_false (by omega)]
    rw [E10, ga J, h35, ga S1.k0, S1.pl, ga hl0, ga S1.L.k0, S1.L.nq, w32_id (by omega) (by omega)]
    by_cases og : o < 0
    · rw [if_pos og, B10_30]
      have e : A.hfs s u 0 q p o = none := by
        unfold St.hfs
        rw [fstN_none]
        intro k hk
        have : k = 0 := by rw [one] at hk; omega
        rw [this, hc, decide_eq_false (by omega)]; rfl
      rw [e] at hQ
      exact hQ h V (fun _ _ => rfl) h35
    · by_cases o1' : o ≤ A.nq - q
      · rw [if_neg og, if_pos o1', if_neg (by omega), ga J]
        refine S12 ⟨J, h35⟩ S1 hl hr O hs hp V (fun h2 V2 P2 f2 g2 => ?_)
        have S2 := S h2 ⟨h, S1, f2⟩
        rw [o0, List.nil_append, B10_42, ga J]
        refine S13 ⟨J, g2⟩ S2 (by omega) O hu V2 P2 ?_
        have hQ := hQ h2 V2 f2 g2
        have e : A.hfs s u 0 q p o = if A.flg s p u = true then none else some 0 := by
          unfold St.hfs
          rw [one, fstN, fstN, hc, decide_eq_true (show o = 0 by omega), Bool.true_and]
          cases A.flg s p u <;> rfl
        rw [e] at hQ
        rw [o1, List.cons_append, List.nil_append, B10_47]
        by_cases hf : A.flg s p u = true
        · rw [if_pos hf] at hQ
          rw [bzt hf, if_neg (by decide), B10_55]; exact hQ
        · rw [if_neg hf] at hQ
          rw [bzf hf, if_pos rfl, B10_55]; exact hQ
      · rw [if_neg og, if_neg o1', B10_30]
        have e : A.hfs s u 0 q p o = none := by
          unfold St.hfs
          rw [fstN_none]
          intro k hk
          have : k = 0 := by rw [one] at hk; omega
          rw [this, hc, decide_eq_false (by omega)]; rfl
        rw [e] at hQ
        exact hQ h V (fun _ _ => rfl) h35
  | succ n ih =>
    intro q p o d h Q hq hp ho S1 V h35 hQ
    have hi : inq A q := ⟨by omega, by omega⟩
    have ch := O.ch q hi
    have rw1 := nrw_r O n (q + 1) (by omega)
    rw [show d + (n + 1) + 6 = (d + n + 6) + 1 by omega, E10, ga J, h35, ga S1.k0, S1.pl, ga hl0, ga S1.L.k0, S1.L.nq, w32_id (by omega) (by omega)]
    have none_ : (o < 0 ∨ A.nq - q < o) → A.hfs s u (n + 1) q p o = none := by
      intro z
      unfold St.hfs
      rw [fstN_none]
      intro k hk
      cases hc : A.hcd s u (n + 1) q p o k
      · rfl
      · have := hcd_r O hq hp hk hc
        omega
    by_cases og : o < 0
    · rw [if_pos og, B10_30]
      rw [none_ (Or.inl og)] at hQ
      exact hQ h V (fun _ _ => rfl) h35
    · by_cases o1' : o ≤ A.nq - q
      · rw [if_neg og, if_pos o1', if_pos (by omega), ga J, ga S1.k0, ga J, S1.n7, V.s1, ga ⟨S1.m27, s0, by rw [S1.w27]; omega⟩, S1.v27 s hs, S151 (by omega) (by omega), o1, List.cons_append, List.nil_append, B10_72]
        have lp : ∀ m a : Nat, a + m = (A.ch q).toNat → fstN (A.hcd s u (n + 1) q p o) (a * A.nrw n (q + 1)) = none → ∀ (h1 : KH) (x y : KV), JV h1 A s → (∀ c, c ≠ 35 → h1 c = h c) → h1 35 0 = 6 → Rn (d + n + 6) 10 77 [xR 35, xI u, xI (q : Int), xI p, xI o, xR l, xI (A.nq - q), xI (dg (A.pa s) q), xI (a : Int), x, y] [] g h1 Q := by
          intro m
          induction m with
          | zero =>
            intro a ha hn h1 x y V1 f1 g1
            have S2 := S h1 ⟨h, S1, f1⟩
            have ha : a = (A.ch q).toNat := by omega
            rw [B10_77, ga S2.L.k0, S2.L.p2, ga ⟨S2.L.k2, by omega, by rw [S2.L.l2]; omega⟩, S2.L.ch q hi, if_pos (by omega)]
            have e : A.hfs s u (n + 1) q p o = none := by
              unfold St.hfs
              rw [St.nrw, ← ha]; exact hn
            rw [e] at hQ
            exact hQ h1 V1 f1 g1
          | succ m im =>
            intro a ha hn h1 x y V1 f1 g1
            have S2 := S h1 ⟨h, S1, f1⟩
            have e1 : ((a : Int) + 1) = ((a + 1 : Nat) : Int) := by omega
            have e2 : ((q : Int) + 1) = ((q + 1 : Nat) : Int) := by omega
            have ha2 : 0 ≤ (a : Int) ∧ (a : Int) < A.ch q := by omega
            have hrw := row_wa O hp hi ha2
            have blk := fstN_blk hn
            have cong : fstN (fun k => A.hcd s u (n + 1) q p o (a * A.nrw n (q + 1) + k)) (A.nrw n (q + 1)) = A.hfs s u n (q + 1) (wa p q a) (o - (if (a : Int) = dg (A.pa s) q then 0 else 1)) := by
              unfold St.hfs
              have ext : ∀ N, N ≤ A.nrw n (q + 1) → fstN (fun k => A.hcd s u (n + 1) q p o (a * A.nrw n (q + 1) + k)) N = fstN (A.hcd s u n (q + 1) (wa p q a) (o - (if (a : Int) = dg (A.pa s) q then 0 else 1))) N := by
                intro N
                induction N with
                | zero => intro _; rfl
                | succ N iN => intro hN; rw [fstN, fstN, iN (by omega), hcd_step O hq hp ha2.2 (by omega)]
              exact ext _ (Nat.le_refl _)
            rw [cong] at blk
            have go : ∀ left : Int, left = o - (if (a : Int) = dg (A.pa s) q then 0 else 1) → (-1 ≤ left ∧ left ≤ 6) → Rn (d + n + 6) 10 105 [xR 35, xI u, xI (q : Int), xI p, xI o, xR l, xI (A.nq - q), xI (dg (A.pa s) q), xI (a : Int), x, y] [xI left] g h1 Q := by
              intro left hleft hl2
              rw [B10_105, S152 hp.1 hp.2.1 (by omega) (by omega) ha2.1 (by omega), o1, List.cons_append, List.nil_append, B10_119, w32_id (by omega) (by omega), e2]
              refine ih (q + 1) _ left d h1 _ (by omega) hrw hl2 S2 V1 g1 (fun h2 V2 f2 g2 => ?_)
              rw [← hleft] at blk
              rw [o1, List.cons_append, List.nil_append, B10_124]
              cases hf : A.hfs s u n (q + 1) (wa p q a) left with
              | none =>
                rw [hf] at blk
                show (if (-1 : Int) = -1 then _ else _)
                rw [if_pos rfl, w32_id (by omega) (by omega), e1]
                exact im (a + 1) (by omega) blk h2 _ _ V2 (fun c hc => by rw [f2 c hc, f1 c hc]) g2
              | some k =>
                rw [hf] at blk
                have ks := fstN_some _ _ hf
                have kr := pk_row O n (q + 1) k _ (by omega) hrw ks.1
                have hne : ¬ A.rwo n (q + 1) (wa p q a) (some k) = -1 := by
                  show ¬ A.pk n (q + 1) k (wa p q a) = -1
                  have := kr.1; omega
                rw [if_neg hne]
                have e : A.hfs s u (n + 1) q p o = some (a * A.nrw n (q + 1) + k) := by
                  obtain ⟨b1, b2, b3⟩ := fstN_some _ _ blk
                  unfold St.hfs
                  refine fstN_is ?_ b2 b3
                  rw [St.nrw]
                  exact Nat.lt_of_lt_of_le b1 (Nat.mul_le_mul_right _ (by omega))
                have hQ := hQ h2 V2 (fun c hc => by rw [f2 c hc, f1 c hc]) g2
                rw [e] at hQ
                have ep : A.rwo (n + 1) q p (some (a * A.nrw n (q + 1) + k)) = A.rwo n (q + 1) (wa p q a) (some k) := by
                  show A.pk (n + 1) q (a * A.nrw n (q + 1) + k) p = A.pk n (q + 1) k (wa p q a)
                  rw [St.pk]
                  have e1 : (a * A.nrw n (q + 1) + k) % A.nrw n (q + 1) = k := by rw [Nat.mul_add_mod_self_right, Nat.mod_eq_of_lt ks.1]
                  have e2 : (a * A.nrw n (q + 1) + k) / A.nrw n (q + 1) = a := by rw [Nat.mul_comm, Nat.mul_add_div (by omega), Nat.div_eq_of_lt ks.1, Nat.add_zero]
                  rw [e1, e2]
                rw [ep] at hQ
                exact hQ
            rw [B10_77, ga S2.L.k0, S2.L.p2, ga ⟨S2.L.k2, by omega, by rw [S2.L.l2]; omega⟩, S2.L.ch q hi, if_neg (by omega)]
            by_cases he : (a : Int) = dg (A.pa s) q
            · rw [if_neg (fun z => z he)]
              exact go o (by rw [if_pos he]; omega) (by omega)
            · rw [if_pos he]
              exact go _ (by rw [if_neg he, w32_id (by omega) (by omega)]) (by rw [w32_id (by omega) (by omega)]; omega)
        exact lp (A.ch q).toNat 0 (by omega) (by rw [Nat.zero_mul]; rfl) h _ _ V (fun _ _ => rfl) h35
      · rw [if_neg og, if_neg o1', B10_30]
        rw [none_ (Or.inr (by omega))] at hQ
        exact hQ h V (fun _ _ => rfl) h35
end HIDE
