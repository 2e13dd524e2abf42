/-! goes -/
theorem S52 {g : KG} {h : KH} {l r : Int} {A : St} (S : SR g h 6 l r A) (O : A.Ok) {x y q : Int} (hx : ins A x) (hy : ins A y) (hq : inq A q) {d : Nat} {Q : Option KV → KG → KH → Prop} : Cl (d + 2) 52 [xR 6, xI x, xI y, xI q] g h Q = Q (some (xI (bz (dg (A.pa x) q = dg (A.pa y) q)))) g h := by
  have h16 := O.ns
  have h6 := O.nq
  have x0 := hx.1
  have x1 := hx.2
  have y0 := hy.1
  have y1 := hy.2
  have q0 := hq.1
  have q1 := hq.2
  rw [E52, ga S.k0, S.n7, ga ⟨S.m27, x0, by rw [S.w27]; omega⟩, S.v27 x hx, S151 q0 (by omega), o1, List.cons_append, List.nil_append, B52_10, ga S.k0, S.n7, ga ⟨S.m27, y0, by rw [S.w27]; omega⟩, S.v27 y hy, S151 q0 (by omega), o1, List.cons_append, List.nil_append, B52_20]
  by_cases he : dg (A.pa x) q = dg (A.pa y) q
  · rw [if_neg (fun z => z he), B52_28, g11, bzt he]
  · rw [if_pos he, B52_28, g01, bzf he]
abbrev St.gcn (A : St) (a q i j : Int) : Prop := A.ask i = a ∧ A.ask j = a ∧ dg (A.pa i) q = dg (A.pa j) q
/-- couples of i with those ahead of j that go together in q, of these in r -/
def St.gj (A : St) (a q i : Int) : Nat → Int
  | 0 => 0
  | j + 1 => A.gj a q i j + bz (A.gcn a q i j)
def St.gbo (A : St) (a q r i : Int) : Nat → Int
  | 0 => 0
  | j + 1 => A.gbo a q r i j + bz (A.gcn a q i j ∧ dg (A.pa i) r = dg (A.pa j) r)
def St.gjj (A : St) (a q : Int) : Nat → Int
  | 0 => 0
  | i + 1 => A.gjj a q i + A.gj a q i i
def St.gbb (A : St) (a q r : Int) : Nat → Int
  | 0 => 0
  | i + 1 => A.gbb a q r i + A.gbo a q r i i
theorem gj_r (A : St) (a q i : Int) : ∀ j : Nat, 0 ≤ A.gj a q i j ∧ A.gj a q i j ≤ j := by
  intro j
  induction j with
  | zero => exact ⟨Int.le_refl 0, Int.le_refl 0⟩
  | succ j ih =>
    have := @bzr (A.gcn a q i j) _
    unfold St.gj
    omega
theorem gb_r (A : St) (a q r i : Int) : ∀ j : Nat, 0 ≤ A.gbo a q r i j ∧ A.gbo a q r i j ≤ j := by
  intro j
  induction j with
  | zero => exact ⟨Int.le_refl 0, Int.le_refl 0⟩
  | succ j ih =>
    have := @bzr (A.gcn a q i j ∧ dg (A.pa i) r = dg (A.pa j) r) _
    unfold St.gbo
    omega
theorem gjj_r (A : St) (a q : Int) : ∀ n : Nat, n ≤ 16 → 0 ≤ A.gjj a q n ∧ A.gjj a q n ≤ 16 * n := by
  intro n
  induction n with
  | zero => intro _; exact ⟨Int.le_refl 0, Int.le_refl 0⟩
  | succ n ih =>
    intro hn
    have := ih (by omega)
    have := gj_r A a q n n
    unfold St.gjj
    omega
theorem gbb_r (A : St) (a q r : Int) : ∀ n : Nat, n ≤ 16 → 0 ≤ A.gbb a q r n ∧ A.gbb a q r n ≤ 16 * n := by
  intro n
  induction n with
  | zero => intro _; exact ⟨Int.le_refl 0, Int.le_refl 0⟩
  | succ n ih =>
    intro hn
    have := ih (by omega)
    have := gb_r A a q r n n
    unfold St.gbb
    omega
def Wd.goes (W : Wd) (a q r : Int) : Wd × Int := if (0 ≤ a ∧ a ≤ 3) ∧ (0 ≤ q ∧ q < W.cur.nq) ∧ (0 ≤ r ∧ r < W.cur.nq) ∧ q ≠ r then W.frac (W.cur.gbb a q r W.cur.ns.toNat) (W.cur.gjj a q W.cur.ns.toNat) else (W.st 1, 0)
theorem C117 {W : Wd} {a q w : Int} : Cw 117 [xR 0, xI a, xI q, xI w] 4 W (W.goes a q w) := by
  intro g h C d Q hQ
  have C0 := C
  obtain ⟨l, r, l2, r2, C1, C2, C3, C4, C5, C6, C7⟩ := C
  unfold Wd.goes at hQ
  have no : ¬ ((0 ≤ a ∧ a ≤ 3) ∧ (0 ≤ q ∧ q < W.cur.nq) ∧ (0 ≤ w ∧ w < W.cur.nq) ∧ q ≠ w) → Rn (d + 3) 117 28 [xR 0, xI a, xI q, xI w, xU, xU, xU, xU] [] g h Q := by
    intro z
    rw [if_neg z] at hQ
    rw [B117_28, ga C3.k0]
    simp only [S133 (k := C3.k0), S134 (k := C3.k0), S135 (k := C3.k0), S136 (k := C3.k0), o1, o0, List.cons_append, List.nil_append, B117_33, g01]
    exact cst C0 hQ
  rw [E117, S145]
  by_cases ha : 0 ≤ a ∧ a ≤ 3
  · rw [bzt ha, o1, List.cons_append, List.nil_append, B117_4, if_neg (by decide), ga C3.k0, S140 C3 C7]
    by_cases hq : 0 ≤ q ∧ q < W.cur.nq
    · rw [bzt hq, o1, List.cons_append, List.nil_append, B117_12, if_neg (by decide), ga C3.k0, S140 C3 C7]
      by_cases hr : 0 ≤ w ∧ w < W.cur.nq
      · rw [bzt hr, o1, List.cons_append, List.nil_append, B117_20, if_neg (by decide)]
        by_cases hne : q = w
        · rw [if_neg (fun z => z hne)]
          exact no (fun z => z.2.2.2 hne)
        · rw [if_pos hne]
          rw [if_pos ⟨ha, hq, hr, hne⟩] at hQ
          have O := C7.O
          have S := C7.S
          have hns := O.ns
          have outer : ∀ n i : Nat, i + n = W.cur.ns.toNat → ∀ x : KV, Rn (d + 3) 117 43 [xR 0, xI a, xI q, xI w, xI (W.cur.gjj a q i), xI (W.cur.gbb a q w i), xI (i : Int), x] [] g h Q := by
            intro n
            induction n with
            | zero =>
              intro i hi x
              have hi : i = W.cur.ns.toNat := by omega
              have r1 := gjj_r W.cur a q i (by omega)
              have r2 := gbb_r W.cur a q w i (by omega)
              unfold Wd.frac at hQ
              rw [← hi] at hQ
              rw [B117_43, ga C3.k0, C3.p4, ga S.k0, S.ns, if_pos (by omega)]
              by_cases hz : W.cur.gjj a q i = 0
              · rw [if_pos hz] at hQ
                rw [if_neg (fun z => z hz), ga C3.k0]
                simp only [S133 (k := C3.k0), S134 (k := C3.k0), S135 (k := C3.k0), S136 (k := C3.k0), o1, o0, List.cons_append, List.nil_append, B117_159, B117_172, g01]
                exact cst C0 hQ
              · rw [if_neg hz] at hQ
                rw [if_pos hz, ga C3.k0]
                refine S137 C3.k0 r2.1 (by omega) (by omega) (by omega) ?_
                simp only [o1, o0, List.cons_append, List.nil_append, B117_172, g11]
                exact ctl C0 hQ
            | succ n ih =>
              intro i hi x
              have hii : ins W.cur i := ⟨by omega, by omega⟩
              have e1 : ((i : Int) + 1) = ((i + 1 : Nat) : Int) := by omega
              have cr := gjj_r W.cur a q i (by omega)
              have cr2 := gbb_r W.cur a q w i (by omega)
              have inner : ∀ m j : Nat, j + m = i → Rn (d + 3) 117 58 [xR 0, xI a, xI q, xI w, xI (W.cur.gjj a q i + W.cur.gj a q i j), xI (W.cur.gbb a q w i + W.cur.gbo a q w i j), xI (i : Int), xI (j : Int)] [] g h Q := by
                intro m
                induction m with
                | zero =>
                  intro j hj
                  have hj : j = i := by omega
                  rw [B117_58, if_pos (by omega), w32_id (by omega) (by omega), e1, hj]
                  exact ih (i + 1) (by omega) _
                | succ m im =>
                  intro j hj
                  have hjj : ins W.cur j := ⟨by omega, by omega⟩
                  have e2 : ((j : Int) + 1) = ((j + 1 : Nat) : Int) := by omega
                  have jr := gj_r W.cur a q i j
                  have jb := gb_r W.cur a q w i j
                  have nx := im (j + 1) (by omega)
                  rw [St.gj, St.gbo] at nx
                  have skip : ¬ W.cur.gcn a q i j → Rn (d + 3) 117 136 [xR 0, xI a, xI q, xI w, xI (W.cur.gjj a q i + W.cur.gj a q i j), xI (W.cur.gbb a q w i + W.cur.gbo a q w i j), xI (i : Int), xI (j : Int)] [] g h Q := by
                    intro z
                    rw [bzf z, bzf (fun y => z y.1), Int.add_zero, Int.add_zero] at nx
                    rw [B117_136, w32_id (by omega) (by omega), e2]
                    exact nx
                  rw [B117_58, if_neg (by omega), ga C3.k0, C3.p4, ga S.k0, S.n3, ga ⟨S.m23, by omega, by rw [S.w23]; omega⟩, S.v23 i hii]
                  by_cases hs : W.cur.ask i = a
                  · rw [if_neg (fun z => z hs), ga C3.k0, ga S.k0, ga ⟨S.m23, by omega, by rw [S.w23]; omega⟩, S.v23 j hjj]
                    by_cases ht : W.cur.ask j = a
                    · rw [if_neg (fun z => z ht), ga C3.k0, ga S.k0, S52 S O hii hjj hq, o1, List.cons_append, List.nil_append, B117_105]
                      by_cases hm : dg (W.cur.pa i) q = dg (W.cur.pa j) q
                      · rw [bzt hm, if_neg (by decide), ga C3.k0, C3.p4, ga S.k0, S52 S O hii hjj hr, o1, List.cons_append, List.nil_append, B117_125]
                        rw [bzt (show W.cur.gcn a q i j from ⟨hs, ht, hm⟩)] at nx
                        by_cases hb : dg (W.cur.pa i) w = dg (W.cur.pa j) w
                        · rw [bzt (show W.cur.gcn a q i j ∧ dg (W.cur.pa i) w = dg (W.cur.pa j) w from ⟨⟨hs, ht, hm⟩, hb⟩)] at nx
                          rw [bzt hb, if_neg (by decide), B117_133, B117_136, w32_id (by omega) (by omega), w32_id (by omega) (by omega), w32_id (by omega) (by omega), e2, Int.add_assoc, Int.add_assoc]
                          exact nx
                        · rw [bzf (fun z => hb z.2)] at nx
                          rw [bzf hb, if_pos rfl, B117_133, B117_136, w32_id (by omega) (by omega), w32_id (by omega) (by omega), w32_id (by omega) (by omega), e2, Int.add_assoc, Int.add_assoc]
                          exact nx
                      · rw [bzf hm, if_pos rfl]
                        exact skip (fun z => hm z.2.2)
                    · rw [if_pos ht]
                      exact skip (fun z => ht z.2.1)
                  · rw [if_pos hs]
                    exact skip (fun z => hs z.1)
              rw [B117_43, ga C3.k0, C3.p4, ga S.k0, S.ns, if_neg (by omega)]
              have := inner i 0 (by omega)
              rw [St.gj, St.gbo, Int.add_zero, Int.add_zero] at this
              exact this
          exact outer W.cur.ns.toNat 0 (by omega) _
      · rw [bzf hr, o1, List.cons_append, List.nil_append, B117_20, if_pos rfl]
        exact no (fun z => hr z.2.2.1)
    · rw [bzf hq, o1, List.cons_append, List.nil_append, B117_12, if_pos rfl]
      exact no (fun z => hq z.2.1)
  · rw [bzf ha, o1, List.cons_append, List.nil_append, B117_4, if_pos rfl]
    exact no (fun z => ha z.1)
theorem C236 {W : Wd} {a q w : Int} : Mw 236 [xR 138, xI a, xI q, xI w] 4 W (W.goes a q w) := by
  intro g h C O d Q hQ
  have K := C.1
  have M := C.2.2.cur
  unfold Wd.goes at hQ
  have no : ¬ ((0 ≤ a ∧ a ≤ 3) ∧ (0 ≤ q ∧ q < W.cur.nq) ∧ (0 ≤ w ∧ w < W.cur.nq) ∧ q ≠ w) → Rn (d + 3) 236 29 [xR 138, xI a, xI q, xI w, xU, xU, xU, xU] [] g h Q := by
    intro z
    rw [if_neg z] at hQ
    rw [B236_29, ga K.k0]
    simp only [S160 (k := K.k0), S161 (k := K.k0), S162 (k := K.k0), o1, o0, List.cons_append, List.nil_append, B236_34, ite_not, bzF, bzT, if_true, if_false, ↓reduceIte, Int.reduceEq, Int.reduceLE, Int.reduceLT, Int.reduceNeg, ne_eq, not_true_eq_false, not_false_eq_true, and_self, and_true, true_and, and_false, false_and, eq_self, g01]
    exact mst C hQ
  rw [E236, S202]
  by_cases ha : 0 ≤ a ∧ a ≤ 3
  · rw [bzt ha, o1, List.cons_append, List.nil_append, B236_5, if_neg (by decide), ga K.k0, S199 K M]
    by_cases hq : 0 ≤ q ∧ q < W.cur.nq
    · rw [bzt hq, o1, List.cons_append, List.nil_append, B236_13, if_neg (by decide), ga K.k0, S199 K M]
      by_cases hr : 0 ≤ w ∧ w < W.cur.nq
      · rw [bzt hr, o1, List.cons_append, List.nil_append, B236_21, if_neg (by decide)]
        by_cases hne : q = w
        · rw [if_neg (fun z => z hne)]
          exact no (fun z => z.2.2.2 hne)
        · rw [if_pos hne]
          rw [if_pos ⟨ha, hq, hr, hne⟩] at hQ
          have hns := O.ns
          have hnq := O.nq
          have g2 : gK g 139 = 20 ∧ 0 ≤ (2 : Int) ∧ (2 : Int) < gL g 139 := ⟨K.kat, by decide, by rw [K.lat]; decide⟩
          have ev : ∀ s k, ins W.cur s → inq W.cur k → h 139 (250 + 13 * s + (7 + k)) = dg (W.cur.pa s) k := fun s k hs hk => by rw [← M.pa s k hs hk]; congr 1; omega
          have outer : ∀ n i : Nat, i + n = W.cur.ns.toNat → ∀ x : KV, Rn (d + 3) 236 44 [xR 138, xI a, xI q, xI w, xI (W.cur.gjj a q i), xI (W.cur.gbb a q w i), xI (i : Int), x] [] g h Q := by
            intro n
            induction n with
            | zero =>
              intro i hi x
              have hi : i = W.cur.ns.toNat := by omega
              have r1 := gjj_r W.cur a q i (by omega)
              have r2 := gbb_r W.cur a q w i (by omega)
              unfold Wd.frac at hQ
              rw [← hi] at hQ
              rw [B236_44, ga K.k0, K.pat, ga g2, M.ns, if_pos (by omega)]
              by_cases hz : W.cur.gjj a q i = 0
              · rw [if_pos hz] at hQ
                rw [if_neg (fun z => z hz), ga K.k0]
                simp only [S160 (k := K.k0), S161 (k := K.k0), S162 (k := K.k0), o1, o0, List.cons_append, List.nil_append, B236_172, B236_185, ite_not, bzF, bzT, if_true, if_false, ↓reduceIte, Int.reduceEq, Int.reduceLE, Int.reduceLT, Int.reduceNeg, ne_eq, not_true_eq_false, not_false_eq_true, and_self, and_true, true_and, and_false, false_and, eq_self, g01]
                exact mst C hQ
              · rw [if_neg hz] at hQ
                rw [if_pos hz, ga K.k0]
                refine S163 K.k0 r2.1 (by omega) (by omega) (by omega) ?_
                simp only [o1, o0, List.cons_append, List.nil_append, B236_185, g11]
                exact mtl C (fun _ _ _ _ => rfl) (fun _ _ => rfl) (fun _ _ => rfl) hQ
            | succ n ih =>
              intro i hi x
              have hii : ins W.cur i := ⟨by omega, by omega⟩
              have e1 : ((i : Int) + 1) = ((i + 1 : Nat) : Int) := by omega
              have cr := gjj_r W.cur a q i (by omega)
              have cr2 := gbb_r W.cur a q w i (by omega)
              have inner : ∀ m j : Nat, j + m = i → Rn (d + 3) 236 58 [xR 138, xI a, xI q, xI w, xI (W.cur.gjj a q i + W.cur.gj a q i j), xI (W.cur.gbb a q w i + W.cur.gbo a q w i j), xI (i : Int), xI (j : Int)] [] g h Q := by
                intro m
                induction m with
                | zero =>
                  intro j hj
                  have hj : j = i := by omega
                  rw [B236_58, if_pos (by omega), w32_id (by omega) (by omega), e1, hj]
                  exact ih (i + 1) (by omega) _
                | succ m im =>
                  intro j hj
                  have hjj : ins W.cur j := ⟨by omega, by omega⟩
                  have e2 : ((j : Int) + 1) = ((j + 1 : Nat) : Int) := by omega
                  have jr := gj_r W.cur a q i j
                  have jb := gb_r W.cur a q w i j
                  have nx := im (j + 1) (by omega)
                  rw [St.gj, St.gbo] at nx
                  have si : 0 ≤ (i : Int) ∧ (i : Int) < 16 := by omega
                  have sj : 0 ≤ (j : Int) ∧ (j : Int) < 16 := by omega
                  have skip : ¬ W.cur.gcn a q i j → Rn (d + 3) 236 149 [xR 138, xI a, xI q, xI w, xI (W.cur.gjj a q i + W.cur.gj a q i j), xI (W.cur.gbb a q w i + W.cur.gbo a q w i j), xI (i : Int), xI (j : Int)] [] g h Q := by
                    intro z
                    rw [bzf z, bzf (fun y => z y.1), Int.add_zero, Int.add_zero] at nx
                    rw [B236_149, w32_id (by omega) (by omega), e2]
                    exact nx
                  rw [B236_58, if_neg (by omega), ga K.k0, S205 K si (by decide), M.ask i hii, o1, List.cons_append, List.nil_append, B236_72]
                  by_cases hs : W.cur.ask i = a
                  · rw [if_neg (fun z => z hs), ga K.k0, S205 K sj (by decide), M.ask j hjj, o1, List.cons_append, List.nil_append, B236_83]
                    by_cases ht : W.cur.ask j = a
                    · rw [if_neg (fun z => z ht), ga K.k0, w32_id (by omega) (by omega), S205 K si (by omega), ev i q hii hq, o1, List.cons_append, List.nil_append, B236_97, ga K.k0, w32_id (by omega) (by omega), S205 K sj (by omega), ev j q hjj hq, o1, List.cons_append, List.nil_append, B236_107]
                      by_cases hm : dg (W.cur.pa i) q = dg (W.cur.pa j) q
                      · rw [if_pos hm, ga K.k0, w32_id (x := 7 + w) (by omega) (by omega), S205 K si (by omega), ev i w hii hr, o1, List.cons_append, List.nil_append, B236_128, ga K.k0, w32_id (x := 7 + w) (by omega) (by omega), S205 K sj (by omega), ev j w hjj hr, o1, List.cons_append, List.nil_append, B236_138]
                        rw [bzt (show W.cur.gcn a q i j from ⟨hs, ht, hm⟩)] at nx
                        by_cases hb : dg (W.cur.pa i) w = dg (W.cur.pa j) w
                        · rw [bzt (show W.cur.gcn a q i j ∧ dg (W.cur.pa i) w = dg (W.cur.pa j) w from ⟨⟨hs, ht, hm⟩, hb⟩)] at nx
                          rw [if_neg (fun z => z hb), B236_146, B236_149, w32_id (by omega) (by omega), w32_id (by omega) (by omega), w32_id (by omega) (by omega), e2, Int.add_assoc, Int.add_assoc]
                          exact nx
                        · rw [bzf (fun z => hb z.2)] at nx
                          rw [if_pos hb, B236_146, B236_149, w32_id (by omega) (by omega), w32_id (by omega) (by omega), w32_id (by omega) (by omega), e2, Int.add_assoc, Int.add_assoc]
                          exact nx
                      · rw [if_neg hm]
                        exact skip (fun z => hm z.2.2)
                    · rw [if_pos ht]
                      exact skip (fun z => ht z.2.1)
                  · rw [if_pos hs]
                    exact skip (fun z => hs z.1)
              rw [B236_44, ga K.k0, K.pat, ga g2, M.ns, if_neg (by omega)]
              have := inner i 0 (by omega)
              rw [St.gj, St.gbo, Int.add_zero, Int.add_zero] at this
              exact this
          exact outer W.cur.ns.toNat 0 (by omega) _
      · rw [bzf hr, o1, List.cons_append, List.nil_append, B236_21, if_pos rfl]
        exact no (fun z => hr z.2.2.1)
    · rw [bzf hq, o1, List.cons_append, List.nil_append, B236_13, if_pos rfl]
      exact no (fun z => hq z.2.1)
  · rw [bzf ha, o1, List.cons_append, List.nil_append, B236_5, if_pos rfl]
    exact no (fun z => ha z.1)
