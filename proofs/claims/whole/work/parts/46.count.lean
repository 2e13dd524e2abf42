/-! how many sheets of a set have an answer -/
def St.cnt (A : St) (q a set : Int) : Nat → Int
  | 0 => 0
  | n + 1 => A.cnt q a set n + (if and32 (shr32 set n) 1 = 1 ∧ dg (A.pa n) q = a then 1 else 0)
theorem St.cnt_r (A : St) (q a set : Int) : ∀ n : Nat, 0 ≤ A.cnt q a set n ∧ A.cnt q a set n ≤ n := by
  intro n
  induction n with
  | zero => exact ⟨Int.le_refl _, Int.le_refl _⟩
  | succ n ih =>
    unfold St.cnt
    split <;> omega
theorem S55 {g : KG} {h : KH} {l r : Int} {A : St} (S : SR g h 6 l r A) (O : A.Ok) {q a set : Int} (hq : inq A q) {d : Nat} {Q : Option KV → KG → KH → Prop} (hQ : Q (some (xI (A.cnt q a set A.ns.toNat))) g h) : Cl (d + 2) 55 [xR 6, xI q, xI a, xI set] g h Q := by
  have hn := O.nq
  have h16 := O.ns
  have q0 := hq.1
  have q1 := hq.2
  have lp : ∀ n k : Nat, k + n = A.ns.toNat → Rn (d + 1) 55 6 [xR 6, xI q, xI a, xI set, xI (A.cnt q a set k), xI (k : Int)] [] g h Q := by
    intro n
    induction n with
    | zero =>
      intro k hk
      have hk : k = A.ns.toNat := by omega
      rw [B55_6, ga S.k0, S.ns, if_pos (by omega), hk]
      exact hQ
    | succ n ih =>
      intro k hk
      have hs : ins A k := ⟨by omega, by omega⟩
      have b := A.cnt_r q a set k
      have ih := ih (k + 1) (by omega)
      have e1 : ((k : Int) + 1) = ((k + 1 : Nat) : Int) := by omega
      unfold St.cnt at ih
      rw [B55_6, ga S.k0, S.ns, if_neg (by omega), ga (by omega)]
      by_cases hb : and32 (shr32 set k) 1 = 1
      · rw [if_neg (fun z => z hb)]
        simp (disch := omega) only [S.k0, S.n7, S.m27, S.w27, S.v27 k hs, true_and, ga, S151, o1, o0, List.cons_append, List.nil_append, B55_36]
        by_cases hd : dg (A.pa k) q = a
        · rw [if_pos ⟨hb, hd⟩] at ih
          rw [if_neg (fun z => z hd), B55_43, w32_id (by omega) (by omega), w32_id (by omega) (by omega), e1]
          exact ih
        · rw [if_neg (fun z => hd z.2), Int.add_zero] at ih
          rw [if_pos hd, B55_43, w32_id (by omega) (by omega), e1]
          exact ih
      · rw [if_neg (fun z => hb z.1), Int.add_zero] at ih
        rw [if_pos hb, B55_43, w32_id (by omega) (by omega), e1]
        exact ih
  rw [E55]
  exact lp A.ns.toNat 0 (by omega)
theorem S237 {g : KG} {h : KH} {A : St} (K : MK g h) (M : MS (h 139) A) (O : A.Ok) {q a set : Int} (hq : inq A q) {d : Nat} {Q : Option KV → KG → KH → Prop} (hQ : Q (some (xI (A.cnt q a set A.ns.toNat))) g h) : Cl (d + 2) 237 [xR 138, xI q, xI a, xI set] g h Q := by
  have hn := O.nq
  have h16 := O.ns
  have q0 := hq.1
  have q1 := hq.2
  have g2 : gK g 139 = 20 ∧ 0 ≤ (2 : Int) ∧ (2 : Int) < gL g 139 := ⟨K.kat, by decide, by rw [K.lat]; decide⟩
  have lp : ∀ n k : Nat, k + n = A.ns.toNat → Rn (d + 1) 237 6 [xR 138, xI q, xI a, xI set, xI (A.cnt q a set k), xI (k : Int)] [] g h Q := by
    intro n
    induction n with
    | zero =>
      intro k hk
      have hk : k = A.ns.toNat := by omega
      rw [B237_6, ga K.k0, K.pat, ga g2, M.ns, if_pos (by omega), hk]
      exact hQ
    | succ n ih =>
      intro k hk
      have hs : ins A k := ⟨by omega, by omega⟩
      have b := A.cnt_r q a set k
      have ih := ih (k + 1) (by omega)
      have e1 : ((k : Int) + 1) = ((k + 1 : Nat) : Int) := by omega
      unfold St.cnt at ih
      rw [B237_6, ga K.k0, K.pat, ga g2, M.ns, if_neg (by omega), ga (by omega)]
      by_cases hb : and32 (shr32 set k) 1 = 1
      · rw [if_neg (fun z => z hb), ga K.k0, w32_id (by omega) (by omega), S205 K ⟨by omega, by omega⟩ ⟨by omega, by omega⟩]
        have e : h 139 (250 + 13 * (k : Int) + (7 + q)) = dg (A.pa k) q := by
          rw [← M.pa k q hs hq]
          congr 1
          omega
        simp only [o1, o0, List.cons_append, List.nil_append, B237_39, e]
        by_cases hd : dg (A.pa k) q = a
        · rw [if_pos ⟨hb, hd⟩] at ih
          rw [if_neg (fun z => z hd), B237_48, w32_id (by omega) (by omega), w32_id (by omega) (by omega), e1]
          exact ih
        · rw [if_neg (fun z => hd z.2)] at ih
          rw [if_pos hd, B237_47, B237_48, w32_id (by omega) (by omega), w32_id (by omega) (by omega), e1]
          exact ih
      · rw [if_neg (fun z => hb z.1)] at ih
        rw [if_pos hb, B237_47, B237_48, w32_id (by omega) (by omega), w32_id (by omega) (by omega), e1]
        exact ih
  rw [E237]
  exact lp A.ns.toNat 0 (by omega)
