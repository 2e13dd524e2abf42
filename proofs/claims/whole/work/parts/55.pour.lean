/-! pour -/
def Wd.pour (W : Wd) (f p t a n : Int) : Wd × Int := if (0 ≤ f ∧ f ≤ 3) ∧ (0 ≤ t ∧ t ≤ 3) ∧ 0 ≤ p ∧ 0 ≤ a ∧ 0 ≤ n then (if W.tm f = -1 ∨ W.tm t = -1 then (W.st 2, 0) else if W.ts f = W.ts t then (if W.tm f - p < n ∨ W.tm t - a < n then (W.st 3, 0) else (W.trs W.ts W.tm (fun x y => if x = t ∧ a ≤ y ∧ y < a + n then W.tv f (p + (y - a)) else W.tv x y) 0, 1)) else (W.st 8, 0)) else (W.st 1, 0)
theorem C96 {W : Wd} {f p t a n : Int} (hp : p ≤ 2147483647) (ha : a ≤ 2147483647) : Cw 96 [xR 0, xI f, xI p, xI t, xI a, xI n] 3 W (W.pour f p t a n) := by
  intro g h C d Q hQ
  have C0 := C
  obtain ⟨l, r, l2, r2, C1, C2, C3, C4, C5, C6, C7⟩ := C
  unfold Wd.pour at hQ
  have no : ¬ ((0 ≤ f ∧ f ≤ 3) ∧ (0 ≤ t ∧ t ≤ 3) ∧ 0 ≤ p ∧ 0 ≤ a ∧ 0 ≤ n) → Rn (d + 2) 96 30 [xR 0, xI f, xI p, xI t, xI a, xI n, xU, xU] [] g h Q := by
    intro z
    rw [if_neg z] at hQ
    simp only [B96_30, B96_35, o1, o0, List.cons_append, List.nil_append, C3.k0, true_and, S133 (k := C3.k0), S134 (k := C3.k0), S135 (k := C3.k0), S136 (k := C3.k0), g01]
    exact cst C0 hQ
  rw [E96, ga C3.k0, S139]
  by_cases hf : 0 ≤ f ∧ f ≤ 3
  · rw [bzt hf]
    simp only [B96_5, o1, o0, List.cons_append, List.nil_append, ite_not, bzF, bzT, if_true, if_false, ↓reduceIte, Int.reduceEq, Int.reduceLE, Int.reduceLT, Int.reduceNeg, ne_eq, not_true_eq_false, not_false_eq_true, and_self, and_true, true_and, and_false, false_and, eq_self, C3.k0, S139]
    by_cases ht : 0 ≤ t ∧ t ≤ 3
    · rw [bzt ht]
      simp only [B96_13, o1, o0, List.cons_append, List.nil_append, ite_not, bzF, bzT, if_true, if_false, ↓reduceIte, Int.reduceEq, Int.reduceLE, Int.reduceLT, Int.reduceNeg, ne_eq, not_true_eq_false, not_false_eq_true, and_self, and_true, true_and, and_false, false_and, eq_self]
      by_cases p0 : p < 0
      · rw [if_pos p0]; exact no (fun z => by omega)
      by_cases a0 : a < 0
      · rw [if_neg p0, if_pos a0]; exact no (fun z => by omega)
      by_cases n0 : 0 ≤ n
      · rw [if_pos ⟨hf, ht, by omega, by omega, n0⟩] at hQ
        have t0 := C1.t0 t ht.1 (by omega)
        have f0 := C1.t0 f hf.1 (by omega)
        obtain ⟨k1, k2, k3, k4⟩ := C1.kt t ht.1 (by omega)
        obtain ⟨j1, j2, j3, j4⟩ := C1.kt f hf.1 (by omega)
        have T := C4.tm t ht.1 (by omega)
        have F := C4.tm f hf.1 (by omega)
        have hf4 : 0 ≤ f ∧ f < 4 := by omega
        have ht4 : 0 ≤ t ∧ t < 4 := by omega
        have g24 : ∀ i, (0 ≤ i ∧ i < 4) → ((gK g 1 = 24 ∨ gK g 1 = 25) ∧ 0 ≤ i ∧ i < gL g 1) := fun i hi => ⟨Or.inl C1.k1, by rw [C1.l1]; exact hi⟩
        rw [if_neg p0, if_neg a0, if_pos n0, ga C3.k0, C3.p0, ga (g24 _ hf4), f0, ga (by omega), ga C3.k0, ga (g24 _ ht4), t0, ga (by omega), ga j1, S86 C1 C4 hf4]
        simp only [o1, o0, List.cons_append, List.nil_append, B96_57]
        have n2 : (W.tm f = -1 ∨ W.tm t = -1) → Rn (d + 2) 96 68 [xR 0, xI f, xI p, xI t, xI a, xI n, xR (55 + 2 * f), xR (55 + 2 * t)] [] g h Q := by
          intro z
          rw [if_pos z] at hQ
          simp only [B96_68, B96_73, o1, o0, List.cons_append, List.nil_append, C3.k0, true_and, S133 (k := C3.k0), S134 (k := C3.k0), S135 (k := C3.k0), S136 (k := C3.k0), g01]
          exact cst C0 hQ
        by_cases m1 : W.tm f = -1
        · rw [bzt m1, if_pos (by decide)]; exact n2 (Or.inl m1)
        · rw [bzf m1, if_neg (by decide), ga k1, S86 C1 C4 ht4]
          simp only [o1, o0, List.cons_append, List.nil_append, B96_65]
          by_cases m2 : W.tm t = -1
          · rw [bzt m2, if_neg (by decide)]; exact n2 (Or.inr m2)
          · rw [bzf m2, if_pos rfl, ga j1, ga k1]
            rw [if_neg (by omega)] at hQ
            have T1 : h (55 + 2 * t) 0 = W.ts t ∧ h (55 + 2 * t) 1 = W.tm t ∧ 0 ≤ W.tm t ∧ W.tm t ≤ 60 := by omega
            have F1 : h (55 + 2 * f) 0 = W.ts f ∧ h (55 + 2 * f) 1 = W.tm f ∧ 0 ≤ W.tm f ∧ W.tm f ≤ 60 := by omega
            rw [T1.1, F1.1, F1.2.1, T1.2.1, j2, k2]
            by_cases hs : W.ts f = W.ts t
            · rw [if_pos hs] at hQ
              rw [if_pos hs, ga j1]
              have n3 : (W.tm f - p < n ∨ W.tm t - a < n) → Rn (d + 2) 96 119 [xR 0, xI f, xI p, xI t, xI a, xI n, xR (55 + 2 * f), xR (55 + 2 * t)] [] g h Q := by
                intro z
                rw [if_pos z] at hQ
                simp only [B96_119, B96_124, o1, o0, List.cons_append, List.nil_append, C3.k0, true_and, S133 (k := C3.k0), S134 (k := C3.k0), S135 (k := C3.k0), S136 (k := C3.k0), g01]
                exact cst C0 hQ
              rw [w32_id (by omega) (by omega), w32_id (by omega) (by omega)]
              by_cases c1 : W.tm f - p < n
              · rw [if_pos c1]; exact n3 (Or.inl c1)
              · rw [if_neg c1, ga k1]
                by_cases c2 : n ≤ W.tm t - a
                · rw [if_pos c2, ga j1, ga k1, ga (by rw [j3, j4, k3, k4]; omega), ga C3.k0]
                  rw [if_neg (by omega)] at hQ
                  simp only [S133 (k := C3.k0), S134 (k := C3.k0), S135 (k := C3.k0), S136 (k := C3.k0), o1, o0, List.cons_append, List.nil_append, B96_147, g11]
                  have z : ∀ c, c ≠ 56 + 2 * t → (hcopy h (56 + 2 * f) p (56 + 2 * t) a n) c = h c := fun c hc => by funext j; unfold hcopy; rw [if_neg (fun z => hc z.1)]
                  have U := C0.tray (h2 := hset (hcopy h (56 + 2 * f) p (56 + 2 * t) a n) 0 11 0) (ts := W.ts) (tm := W.tm) (tv := fun x y => if x = t ∧ a ≤ y ∧ y < a + n then W.tv f (p + (y - a)) else W.tv x y) (s := 0) (hset_e _ _ _ _) ⟨?_, ?_⟩ (fun a a0 a1 a2 => by rw [hset_a _ _ _ (by omega), z _ (by omega)]) (fun x x0 x1 => by rw [hset_a _ _ _ (by omega), z _ (by omega)]) (fun j hj => by rw [hset_i _ _ hj, z _ (by omega)])
                  exact hQ _ U (fun a ha => by rw [hset_a _ _ _ (by omega), z _ (by omega)])
                  · intro x x0 x1
                    rw [hset_a _ _ _ (by omega), z _ (by omega)]
                    exact C4.tm x x0 x1
                  · intro x y x0 x1 y0 y1
                    have y1 : y < W.tm x := y1
                    rw [hset_a _ _ _ (by omega)]
                    show hcopy h (56 + 2 * f) p (56 + 2 * t) a n (56 + 2 * x) y = if x = t ∧ a ≤ y ∧ y < a + n then W.tv f (p + (y - a)) else W.tv x y
                    unfold hcopy
                    by_cases hx : x = t ∧ a ≤ y ∧ y < a + n
                    · rw [if_pos ⟨by omega, hx.2.1, hx.2.2⟩, if_pos hx]
                      exact C4.tv f _ hf.1 (by omega) (by omega) (by omega)
                    · rw [if_neg (fun z => hx ⟨by omega, z.2⟩), if_neg hx]
                      exact C4.tv x y x0 x1 y0 y1
                · rw [if_neg c2]; exact n3 (Or.inr (by omega))
            · rw [if_neg hs] at hQ
              rw [if_neg hs, ga C3.k0]
              simp only [B96_93, o1, o0, List.cons_append, List.nil_append, S133 (k := C3.k0), S134 (k := C3.k0), S135 (k := C3.k0), S136 (k := C3.k0), g01]
              exact cst C0 hQ
      · rw [if_neg p0, if_neg a0, if_neg n0]; exact no (fun z => by omega)
    · rw [bzf ht]
      simp only [B96_13, o1, o0, List.cons_append, List.nil_append, ite_not, bzF, bzT, if_true, if_false, ↓reduceIte, Int.reduceEq, Int.reduceLE, Int.reduceLT, Int.reduceNeg, ne_eq, not_true_eq_false, not_false_eq_true, and_self, and_true, true_and, and_false, false_and, eq_self]
      exact no (fun z => ht z.2.1)
  · rw [bzf hf]
    simp only [B96_5, o1, o0, List.cons_append, List.nil_append, ite_not, bzF, bzT, if_true, if_false, ↓reduceIte, Int.reduceEq, Int.reduceLE, Int.reduceLT, Int.reduceNeg, ne_eq, not_true_eq_false, not_false_eq_true, and_self, and_true, true_and, and_false, false_and, eq_self]
    exact no (fun z => hf z.1)
/-- which places of a pour are done after m of them -/
def pdone (p a n m k : Int) : Prop := (p < a ∧ n - m ≤ k ∧ k < n) ∨ (a ≤ p ∧ 0 ≤ k ∧ k < m)
theorem C170 {W : Wd} (G : W.Rg) {f p t a n : Int} (hp : p ≤ 2147483647) (ha : a ≤ 2147483647) : Mw 170 [xR 138, xI f, xI p, xI t, xI a, xI n] 2 W (W.pour f p t a n) := by
  intro g h C O d Q hQ
  have K := C.1
  have M := C.2.2.cur
  unfold Wd.pour at hQ
  have no : ¬ ((0 ≤ f ∧ f ≤ 3) ∧ (0 ≤ t ∧ t ≤ 3) ∧ 0 ≤ p ∧ 0 ≤ a ∧ 0 ≤ n) → Rn (d + 1) 170 28 [xR 138, xI f, xI p, xI t, xI a, xI n, xU, xU] [] g h Q := by
    intro z
    rw [if_neg z] at hQ
    simp only [B170_28, B170_33, o1, o0, List.cons_append, List.nil_append, K.k0, true_and, S160 (k := K.k0), S161 (k := K.k0), S162 (k := K.k0), ite_not, bzF, bzT, if_true, if_false, ↓reduceIte, Int.reduceEq, Int.reduceLE, Int.reduceLT, Int.reduceNeg, ne_eq, not_true_eq_false, not_false_eq_true, and_self, and_true, true_and, and_false, false_and, eq_self, g01]
    exact mst C hQ
  rw [E170, S164]
  by_cases hf : 0 ≤ f ∧ f ≤ 3
  · rw [bzt hf]
    simp only [B170_4, o1, o0, List.cons_append, List.nil_append, ite_not, bzF, bzT, if_true, if_false, ↓reduceIte, Int.reduceEq, Int.reduceLE, Int.reduceLT, Int.reduceNeg, ne_eq, not_true_eq_false, not_false_eq_true, and_self, and_true, true_and, and_false, false_and, eq_self, S164]
    by_cases ht : 0 ≤ t ∧ t ≤ 3
    · rw [bzt ht]
      simp only [B170_11, o1, o0, List.cons_append, List.nil_append, ite_not, bzF, bzT, if_true, if_false, ↓reduceIte, Int.reduceEq, Int.reduceLE, Int.reduceLT, Int.reduceNeg, ne_eq, not_true_eq_false, not_false_eq_true, and_self, and_true, true_and, and_false, false_and, eq_self]
      by_cases p0 : p < 0
      · rw [if_pos p0]; exact no (fun z => by omega)
      by_cases a0 : a < 0
      · rw [if_neg p0, if_pos a0]; exact no (fun z => by omega)
      by_cases n0 : 0 ≤ n
      · rw [if_pos ⟨hf, ht, by omega, by omega, n0⟩] at hQ
        have T := G.1 t ht.1 (by omega)
        have F := G.1 f hf.1 (by omega)
        rw [if_neg p0, if_neg a0, if_pos n0, ga K.k0, K.p5, ga ⟨K.k141, hf.1, by rw [K.l141]; omega⟩, C.2.2.tm f hf.1 (by omega), ga K.k0, ga ⟨K.k141, ht.1, by rw [K.l141]; omega⟩, C.2.2.tm t ht.1 (by omega)]
        have n2 : (W.tm f = -1 ∨ W.tm t = -1) → Rn (d + 1) 170 54 [xR 138, xI f, xI p, xI t, xI a, xI n, xU, xU] [] g h Q := by
          intro z
          rw [if_pos z] at hQ
          simp only [B170_54, B170_59, o1, o0, List.cons_append, List.nil_append, K.k0, true_and, S160 (k := K.k0), S161 (k := K.k0), S162 (k := K.k0), ite_not, bzF, bzT, if_true, if_false, ↓reduceIte, Int.reduceEq, Int.reduceLE, Int.reduceLT, Int.reduceNeg, ne_eq, not_true_eq_false, not_false_eq_true, and_self, and_true, true_and, and_false, false_and, eq_self, g01]
          exact mst C hQ
        by_cases m1 : W.tm f = -1
        · rw [if_pos m1]; exact n2 (Or.inl m1)
        · rw [if_neg m1]
          by_cases m2 : W.tm t = -1
          · rw [if_pos m2]; exact n2 (Or.inr m2)
          · rw [if_neg m2]
            rw [if_neg (by omega)] at hQ
            rw [ga K.k0, K.p4, ga ⟨K.k140, hf.1, by rw [K.l140]; omega⟩, C.2.2.ts f hf.1 (by omega) m1, ga K.k0, ga ⟨K.k140, ht.1, by rw [K.l140]; omega⟩, C.2.2.ts t ht.1 (by omega) m2]
            by_cases hs : W.ts f = W.ts t
            · rw [if_pos hs] at hQ
              rw [if_pos hs, ga K.k0, ga ⟨K.k141, hf.1, by rw [K.l141]; omega⟩]
              have n3 : (W.tm f - p < n ∨ W.tm t - a < n) → Rn (d + 1) 170 109 [xR 138, xI f, xI p, xI t, xI a, xI n, xU, xU] [] g h Q := by
                intro z
                rw [if_pos z] at hQ
                simp only [B170_109, B170_114, o1, o0, List.cons_append, List.nil_append, K.k0, true_and, S160 (k := K.k0), S161 (k := K.k0), S162 (k := K.k0), ite_not, bzF, bzT, if_true, if_false, ↓reduceIte, Int.reduceEq, Int.reduceLE, Int.reduceLT, Int.reduceNeg, ne_eq, not_true_eq_false, not_false_eq_true, and_self, and_true, true_and, and_false, false_and, eq_self, g01]
                exact mst C hQ
              rw [w32_id (by omega) (by omega)]
              by_cases c1 : W.tm f - p < n
              · rw [if_pos c1]; exact n3 (Or.inl c1)
              · rw [if_neg c1, ga K.k0, ga ⟨K.k141, ht.1, by rw [K.l141]; omega⟩, w32_id (by omega) (by omega)]
                by_cases c2 : n ≤ W.tm t - a
                · rw [if_pos c2]
                  rw [if_neg (by omega)] at hQ
                  have L : ∀ n1 m : Nat, (m : Int) + n1 = n → ∀ (h1 : KH) (x : KV), (∀ c, c ≠ 142 → h1 c = h c) → (∀ j, pdone p a n m (j - 60 * t - a) → h1 142 j = h 142 (60 * f + p + (j - 60 * t - a))) → (∀ j, ¬ pdone p a n m (j - 60 * t - a) → h1 142 j = h 142 j) → Rn (d + 1) 170 118 [xR 138, xI f, xI p, xI t, xI a, xI n, xI (m : Int), x] [] g h1 Q := by
                    intro n1
                    unfold pdone
                    induction n1 with
                    | zero =>
                      intro m hm h1 x q1 q2 q3
                      rw [B170_118, if_pos (by omega), ga K.k0]
                      simp only [S160 (k := K.k0), S161 (k := K.k0), S162 (k := K.k0), B170_185, o1, o0, List.cons_append, List.nil_append, ite_not, bzF, bzT, if_true, if_false, ↓reduceIte, Int.reduceEq, Int.reduceLE, Int.reduceLT, Int.reduceNeg, ne_eq, not_true_eq_false, not_false_eq_true, and_self, and_true, true_and, and_false, false_and, eq_self, g11]
                      have U := C.tray (h2 := hset h1 138 1 0) (ts := W.ts) (tm := W.tm) (tv := fun x y => if x = t ∧ a ≤ y ∧ y < a + n then W.tv f (p + (y - a)) else W.tv x y) (s := 0) (hset_e _ _ _ _) (fun a a0 a1 b1 b2 b3 => by rw [hset_a _ _ _ (by omega), q1 a b3]) (fun j hj => by rw [hset_i _ _ hj, q1 _ (by decide)]) (fun x x0 x1 => by rw [hset_a _ _ _ (by decide), q1 _ (by decide)]; exact C.2.2.tm x x0 x1) (fun x x0 x1 => by rw [hset_a _ _ _ (by decide), q1 _ (by decide)]; exact C.2.2.ts x x0 x1) ?_
                      exact hQ _ U (fun a ha => by rw [hset_a _ _ _ (by omega), q1 a (by omega)])
                      intro x y x0 x1 y0 y1
                      have R := G.1 x x0 x1
                      rw [hset_a _ _ _ (by decide)]
                      show _ = if x = t ∧ a ≤ y ∧ y < a + n then W.tv f (p + (y - a)) else W.tv x y
                      by_cases hx : x = t ∧ a ≤ y ∧ y < a + n
                      · rw [if_pos hx, q2 _ (by omega)]
                        have e : 60 * f + p + (60 * x + y - 60 * t - a) = 60 * f + (p + (y - a)) := by omega
                        rw [e]
                        exact C.2.2.tv f _ hf.1 (by omega) (by omega) (by omega)
                      · rw [if_neg hx, q3 _ (by omega)]
                        exact C.2.2.tv x y x0 x1 y0 y1
                    | succ n1 ih =>
                      intro m hm h1 x q1 q2 q3
                      have e1 : ((m : Int) + 1) = ((m + 1 : Nat) : Int) := by omega
                      have step : ∀ k, k = (if a ≤ p then (m : Int) else n - 1 - m) → Rn (d + 1) 170 143 [xR 138, xI f, xI p, xI t, xI a, xI n, xI (m : Int), x] [xI k] g h1 Q := by
                        intro k hk
                        have hk : (a ≤ p ∧ k = m) ∨ (p < a ∧ k = n - 1 - m) := by
                          by_cases c : a ≤ p
                          · rw [if_pos c] at hk; exact Or.inl ⟨c, hk⟩
                          · rw [if_neg c] at hk; exact Or.inr ⟨by omega, hk⟩
                        have z0 : h1 138 = h 138 := q1 _ (by decide)
                        rw [B170_143, ga K.k0, ga K.k0, z0, K.p6]
                        simp (disch := omega) only [w32_id]
                        rw [ga ⟨K.k142, by omega, by rw [K.l142]; omega⟩, ga ⟨K.k142, by omega, by rw [K.l142]; omega⟩, e1]
                        have ev : h1 142 (60 * f + p + k) = h 142 (60 * f + p + k) := q3 _ (by omega)
                        rw [ev]
                        refine ih (m + 1) (by omega) _ _ (fun c hc => by rw [hset_a _ _ _ hc, q1 c hc]) (fun j hj => ?_) (fun j hj => ?_)
                        · by_cases ej : j = 60 * t + a + k
                          · rw [ej, hset_e]
                            have : 60 * f + p + (60 * t + a + k - 60 * t - a) = 60 * f + p + k := by omega
                            rw [this]
                          · rw [hset_i _ _ ej]; exact q2 j (by omega)
                        · rw [hset_i _ _ (by omega)]; exact q3 j (by omega)
                      rw [B170_118, if_neg (by omega)]
                      by_cases c : a ≤ p
                      · rw [if_pos c]
                        exact step _ (by rw [if_pos c])
                      · rw [if_neg c]
                        exact step _ (by rw [if_neg c]; simp (disch := omega) only [w32_id])
                  refine L n.toNat 0 (by omega) h _ (fun c _ => rfl) (fun j hj => ?_) (fun j _ => rfl)
                  unfold pdone at hj
                  omega
                · rw [if_neg c2]; exact n3 (Or.inr (by omega))
            · rw [if_neg hs] at hQ
              rw [if_neg hs, ga K.k0]
              simp only [B170_81, o1, o0, List.cons_append, List.nil_append, S160 (k := K.k0), S161 (k := K.k0), S162 (k := K.k0), ite_not, bzF, bzT, if_true, if_false, ↓reduceIte, Int.reduceEq, Int.reduceLE, Int.reduceLT, Int.reduceNeg, ne_eq, not_true_eq_false, not_false_eq_true, and_self, and_true, true_and, and_false, false_and, eq_self, g01]
              exact mst C hQ
      · rw [if_neg p0, if_neg a0, if_neg n0]; exact no (fun z => by omega)
    · rw [bzf ht]
      simp only [B170_11, o1, o0, List.cons_append, List.nil_append, ite_not, bzF, bzT, if_true, if_false, ↓reduceIte, Int.reduceEq, Int.reduceLE, Int.reduceLT, Int.reduceNeg, ne_eq, not_true_eq_false, not_false_eq_true, and_self, and_true, true_and, and_false, false_and, eq_self]
      exact no (fun z => ht z.2.1)
  · rw [bzf hf]
    simp only [B170_4, o1, o0, List.cons_append, List.nil_append, ite_not, bzF, bzT, if_true, if_false, ↓reduceIte, Int.reduceEq, Int.reduceLE, Int.reduceLT, Int.reduceNeg, ne_eq, not_true_eq_false, not_false_eq_true, and_self, and_true, true_and, and_false, false_and, eq_self]
    exact no (fun z => hf z.1)
