/-! does a sheet fit behind another; which is ahead -/
theorem S59 {g : KG} {h : KH} {l r : Int} {A : St} (S : SR g h 6 l r A) (O : A.Ok) {x y : Int} (hx : ins A x) (hy : ins A y) {d : Nat} {Q : Option KV → KG → KH → Prop} (hQ : Q (some (xI (bz (A.tt y + A.mins (A.dr y) (A.dr x) ≤ A.fr x)))) g h) : Cl (d + 3) 59 [xR 6, xI x, xI y] g h Q := by
  have h16 := O.ns
  have x0 := hx.1
  have x1 := hx.2
  have y0 := hy.1
  have y1 := hy.2
  have b := O.mins (O.dr y hy) (O.dr x hx)
  have t := O.tt y hy
  have f := O.fr y hy
  simp (disch := omega) only [E59, S.k0, S.n4, S.n5, S.n6, S.m24, S.w24, S.m25, S.w25, S.m26, S.w26, S.v24 x hx, S.v24 y hy, S.v25 x hx, S.v26 y hy, S.pl, S.L.k0, true_and, ga]
  refine S24 S.L O (O.dr y hy) (O.dr x hx) ?_
  simp (disch := omega) only [o1, o0, List.cons_append, List.nil_append, B59_31, w32_id]
  by_cases hc : A.tt y + A.mins (A.dr y) (A.dr x) ≤ A.fr x
  · rw [bzt hc] at hQ
    rw [if_neg (by omega), B59_40, g11]
    exact hQ
  · rw [bzf hc] at hQ
    rw [if_pos (by omega), B59_40, g01]
    exact hQ
theorem S58 {g : KG} {h : KH} {l r : Int} {A : St} (S : SR g h 6 l r A) (O : A.Ok) {x y : Int} (hx : ins A x) (hy : ins A y) {d : Nat} {Q : Option KV → KG → KH → Prop} (hQ : Q (some (xI (bz (A.fr x < A.fr y ∨ (A.fr x = A.fr y ∧ x < y))))) g h) : Cl (d + 1) 58 [xR 6, xI x, xI y] g h Q := by
  have h16 := O.ns
  have x0 := hx.1
  have x1 := hx.2
  have y0 := hy.1
  have y1 := hy.2
  simp (disch := omega) only [E58, S.k0, S.n5, S.m25, S.w25, S.v25 x hx, S.v25 y hy, true_and, ga]
  by_cases h1 : A.fr x < A.fr y
  · rw [bzt (Or.inl h1)] at hQ
    rw [if_pos h1, B58_35, B58_40, g11]
    exact hQ
  · rw [if_neg h1]
    by_cases h2 : A.fr x = A.fr y
    · rw [if_neg (fun z => z h2)]
      by_cases h3 : y ≤ x
      · rw [bzf (by omega)] at hQ
        rw [if_pos h3, B58_39, B58_40, g01]
        exact hQ
      · rw [bzt (by omega)] at hQ
        rw [if_neg h3, B58_35, B58_40, g11]
        exact hQ
    · rw [bzf (by omega)] at hQ
      rw [if_pos h2, B58_39, B58_40, g01]
      exact hQ
theorem S226 {g : KG} {h : KH} {A : St} (K : MK g h) (M : MS (h 139) A) (O : A.Ok) {x y : Int} (hx : ins A x) (hy : ins A y) {d : Nat} {Q : Option KV → KG → KH → Prop} (hQ : Q (some (xI (bz (A.tt y + A.mins (A.dr y) (A.dr x) ≤ A.fr x)))) g h) : Cl (d + 3) 226 [xR 138, xI x, xI y] g h Q := by
  have h16 := O.ns
  have x0 := hx.1
  have x1 := hx.2
  have y0 := hy.1
  have y1 := hy.2
  have b := O.mins (O.dr y hy) (O.dr x hx)
  have t := O.tt y hy
  have f := O.fr y hy
  rw [E226, ga K.k0, S205 K ⟨by omega, by omega⟩ (by decide), M.fr x hx]
  simp only [o1, o0, List.cons_append, List.nil_append]
  rw [B226_6, ga K.k0, S205 K ⟨by omega, by omega⟩ (by decide), M.tt y hy]
  simp only [o1, o0, List.cons_append, List.nil_append]
  rw [B226_12, ga K.k0, S205 K ⟨by omega, by omega⟩ (by decide), M.dr y hy]
  simp only [o1, o0, List.cons_append, List.nil_append]
  rw [B226_19, ga K.k0, S205 K ⟨by omega, by omega⟩ (by decide), M.dr x hx]
  simp only [o1, o0, List.cons_append, List.nil_append]
  rw [B226_25, ga K.k0]
  refine S223 K M O (O.dr y hy) (O.dr x hx) ?_
  simp (disch := omega) only [o1, o0, List.cons_append, List.nil_append, B226_28, w32_id]
  by_cases hc : A.tt y + A.mins (A.dr y) (A.dr x) ≤ A.fr x
  · rw [bzt hc] at hQ
    rw [if_neg (by omega), B226_37, g11]
    exact hQ
  · rw [bzf hc] at hQ
    rw [if_pos (by omega), B226_37, g01]
    exact hQ
