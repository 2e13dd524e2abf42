/-! bounds -/
def St.has (A : St) (q a : Int) : Int := A.cnt q a (w32 (shl32 1 A.ns - 1)) A.ns.toNat
def St.bnd (A : St) (q a lf m : Int) : Int := if m = 0 then (if A.has q a - lf < 0 then 0 else A.has q a - lf) else (if A.ns - lf < A.has q a then A.ns - lf else A.has q a)
def Wd.bounds (W : Wd) (q a lf m : Int) : Wd × Int := if ((0 ≤ q ∧ q < W.cur.nq) ∧ 0 ≤ a ∧ a < W.cur.ch q) ∧ 0 ≤ lf ∧ lf < W.cur.ns then W.frac (W.cur.bnd q a lf m) (W.cur.ns - lf) else (W.st 1, 0)
theorem C119 {W : Wd} {q a lf m : Int} : Cw 119 [xR 0, xI q, xI a, xI lf, xI m] 4 W (W.bounds q a lf m) := by
  intro g h C d Q hQ
  have C0 := C
  obtain ⟨l, r, l2, r2, C1, C2, C3, C4, C5, C6, C7⟩ := C
  have hn := C7.O.nq
  have h16 := C7.O.ns
  rw [E119, ga C3.k0, S141 C3 C7]
  have no : ¬ (((0 ≤ q ∧ q < W.cur.nq) ∧ 0 ≤ a ∧ a < W.cur.ch q) ∧ 0 ≤ lf ∧ lf < W.cur.ns) → Rn (d + 3) 119 28 [xR 0, xI q, xI a, xI lf, xI m, xU, xU] [] g h Q := by
    intro z
    unfold Wd.bounds at hQ
    rw [if_neg z] at hQ
    simp only [E119, B119_6, B119_25, B119_28, B119_33, B119_54, B119_93, B119_99, o1, o0, List.cons_append, List.nil_append, ite_not, bzF, bzT, if_true, if_false, ↓reduceIte, Int.reduceEq, Int.reduceLE, Int.reduceLT, Int.reduceNeg, ne_eq, not_true_eq_false, not_false_eq_true, and_self, and_true, true_and, and_false, false_and, eq_self, C3.k0, C3.p4, C7.S.k0, C7.S.pl, C7.S.pr, C7.S.ns, C7.S.L.k0, C7.S.L.p2, C7.S.L.p3, C7.S.L.p4, C7.S.L.k2, C7.S.L.l2, C7.S.L.nq, C7.S.L.nd, C7.S.L.wk, C7.S.L.ca, C7.S.L.cm, C7.S.R.k0, C7.S.R.nr, C7.S.L.tl.k0, C7.S.L.tm.k0, true_and, S133 (k := C3.k0), S134 (k := C3.k0), S135 (k := C3.k0), S136 (k := C3.k0), g01]
    exact cst C0 hQ
  by_cases hq : (0 ≤ q ∧ q < W.cur.nq) ∧ 0 ≤ a ∧ a < W.cur.ch q
  · rw [bzt hq]
    simp (disch := omega) only [B119_6, o1, o0, List.cons_append, List.nil_append, ite_not, bzF, bzT, if_true, if_false, ↓reduceIte, Int.reduceEq, Int.reduceLE, Int.reduceLT, Int.reduceNeg, ne_eq, not_true_eq_false, not_false_eq_true, and_self, and_true, true_and, and_false, false_and, eq_self, C3.k0, C3.p4, C7.S.k0, C7.S.pl, C7.S.pr, C7.S.ns, C7.S.L.k0, C7.S.L.p2, C7.S.L.p3, C7.S.L.p4, C7.S.L.k2, C7.S.L.l2, C7.S.L.nq, C7.S.L.nd, C7.S.L.wk, C7.S.L.ca, C7.S.L.cm, C7.S.R.k0, C7.S.R.nr, C7.S.L.tl.k0, C7.S.L.tm.k0, true_and, S146, w32_id]
    by_cases hl : 0 ≤ lf ∧ lf < W.cur.ns
    · rw [bzt (show 0 ≤ lf ∧ lf ≤ W.cur.ns - 1 by omega)]
      have b := W.cur.cnt_r q a (w32 (shl32 1 W.cur.ns - 1)) W.cur.ns.toNat
      have b : 0 ≤ W.cur.has q a ∧ W.cur.has q a ≤ W.cur.ns.toNat := b
      unfold Wd.bounds Wd.frac at hQ
      rw [if_pos ⟨hq, hl⟩, if_neg (show ¬ W.cur.ns - lf = 0 by omega)] at hQ
      simp (disch := omega) only [B119_25, o1, o0, List.cons_append, List.nil_append, ite_not, bzF, bzT, if_true, if_false, ↓reduceIte, Int.reduceEq, Int.reduceLE, Int.reduceLT, Int.reduceNeg, ne_eq, not_true_eq_false, not_false_eq_true, and_self, and_true, true_and, and_false, false_and, eq_self, C3.k0, C3.p4, C7.S.k0, C7.S.pl, C7.S.pr, C7.S.ns, C7.S.L.k0, C7.S.L.p2, C7.S.L.p3, C7.S.L.p4, C7.S.L.k2, C7.S.L.l2, C7.S.L.nq, C7.S.L.nd, C7.S.L.wk, C7.S.L.ca, C7.S.L.cm, C7.S.R.k0, C7.S.R.nr, C7.S.L.tl.k0, C7.S.L.tm.k0, true_and, ga]
      refine S55 C7.S C7.O hq.1 ?_
      rw [show W.cur.cnt q a (w32 (shl32 1 W.cur.ns - 1)) W.cur.ns.toNat = W.cur.has q a from rfl]
      simp (disch := omega) only [B119_54, o1, o0, List.cons_append, List.nil_append, ite_not, bzF, bzT, if_true, if_false, ↓reduceIte, Int.reduceEq, Int.reduceLE, Int.reduceLT, Int.reduceNeg, ne_eq, not_true_eq_false, not_false_eq_true, and_self, and_true, true_and, and_false, false_and, eq_self, C3.k0, C3.p4, C7.S.k0, C7.S.pl, C7.S.pr, C7.S.ns, C7.S.L.k0, C7.S.L.p2, C7.S.L.p3, C7.S.L.p4, C7.S.L.k2, C7.S.L.l2, C7.S.L.nq, C7.S.L.nd, C7.S.L.wk, C7.S.L.ca, C7.S.L.cm, C7.S.R.k0, C7.S.R.nr, C7.S.L.tl.k0, C7.S.L.tm.k0, true_and, ga, w32_id]
      have fin : ∀ x y v, v = W.cur.bnd q a lf m → Rn (d + 3) 119 93 [xR 0, xI q, xI a, xI lf, xI m, xI x, xI (W.cur.ns - lf)] [xL v, xR y] g h Q ∨ y ≠ 0 := by
        intro x y v hv
        by_cases hy : y = 0
        · refine Or.inl ?_
          subst hy
          have hv2 : 0 ≤ v ∧ v ≤ 16 := by
            rw [hv]
            unfold St.bnd
            split <;> split <;> omega
          rw [B119_93, ga C3.k0]
          refine S137 C3.k0 hv2.1 (by omega) (by omega) (by omega) ?_
          simp only [E119, B119_6, B119_25, B119_28, B119_33, B119_54, B119_93, B119_99, o1, o0, List.cons_append, List.nil_append, g11]
          rw [hv]
          exact ctl C0 hQ
        · exact Or.inr hy
      by_cases hm : m = 0
      · rw [if_pos hm]
        exact (fin _ 0 _ (by unfold St.bnd; rw [if_pos hm])).elim id (fun z => absurd rfl z)
      · rw [if_neg hm]
        exact (fin _ 0 _ (by unfold St.bnd; rw [if_neg hm])).elim id (fun z => absurd rfl z)
    · rw [bzf (show ¬ (0 ≤ lf ∧ lf ≤ W.cur.ns - 1) by omega)]
      simp only [B119_25, o1, o0, List.cons_append, List.nil_append, ite_not, bzF, bzT, if_true, if_false, ↓reduceIte, Int.reduceEq, Int.reduceLE, Int.reduceLT, Int.reduceNeg, ne_eq, not_true_eq_false, not_false_eq_true, and_self, and_true, true_and, and_false, false_and, eq_self]
      exact no (fun z => hl z.2)
  · rw [bzf hq]
    simp only [B119_6, o1, o0, List.cons_append, List.nil_append, ite_not, bzF, bzT, if_true, if_false, ↓reduceIte, Int.reduceEq, Int.reduceLE, Int.reduceLT, Int.reduceNeg, ne_eq, not_true_eq_false, not_false_eq_true, and_self, and_true, true_and, and_false, false_and, eq_self]
    exact no (fun z => hq z.1)
theorem C242 {W : Wd} {q a lf m : Int} : Mw 242 [xR 138, xI q, xI a, xI lf, xI m] 4 W (W.bounds q a lf m) := by
  intro g h C O d Q hQ
  have K := C.1
  have M := C.2.2.cur
  have hn := O.nq
  have h16 := O.ns
  have g2 : gK g 139 = 20 ∧ 0 ≤ (2 : Int) ∧ (2 : Int) < gL g 139 := ⟨K.kat, by decide, by rw [K.lat]; decide⟩
  rw [E242, ga K.k0, K.pat, ga g2, ga K.k0, S240 K M O, M.ns]
  have no : ¬ (((0 ≤ q ∧ q < W.cur.nq) ∧ 0 ≤ a ∧ a < W.cur.ch q) ∧ 0 ≤ lf ∧ lf < W.cur.ns) → Rn (d + 3) 242 27 [xR 138, xI q, xI a, xI lf, xI m, xI W.cur.ns, xU] [] g h Q := by
    intro z
    unfold Wd.bounds at hQ
    rw [if_neg z] at hQ
    simp only [E242, B242_14, B242_27, B242_32, B242_40, B242_43, B242_73, B242_81, o1, o0, List.cons_append, List.nil_append, ite_not, bzF, bzT, if_true, if_false, ↓reduceIte, Int.reduceEq, Int.reduceLE, Int.reduceLT, Int.reduceNeg, ne_eq, not_true_eq_false, not_false_eq_true, and_self, and_true, true_and, and_false, false_and, eq_self, K.k0, S160 (k := K.k0), S161 (k := K.k0), S162 (k := K.k0), g01]
    exact mst C hQ
  by_cases hq : (0 ≤ q ∧ q < W.cur.nq) ∧ 0 ≤ a ∧ a < W.cur.ch q
  · rw [bzt hq]
    simp only [B242_14, o1, o0, List.cons_append, List.nil_append, ite_not, bzF, bzT, if_true, if_false, ↓reduceIte, Int.reduceEq, Int.reduceLE, Int.reduceLT, Int.reduceNeg, ne_eq, not_true_eq_false, not_false_eq_true, and_self, and_true, true_and, and_false, false_and, eq_self, K.k0]
    by_cases h0 : lf < 0
    · rw [if_pos h0]; exact no (fun z => by omega)
    · rw [if_neg h0]
      by_cases h1 : lf < W.cur.ns
      · rw [if_pos h1]
        have b := W.cur.cnt_r q a (w32 (shl32 1 W.cur.ns - 1)) W.cur.ns.toNat
        have b : 0 ≤ W.cur.has q a ∧ W.cur.has q a ≤ W.cur.ns.toNat := b
        unfold Wd.bounds Wd.frac at hQ
        rw [if_pos ⟨hq, by omega⟩, if_neg (show ¬ W.cur.ns - lf = 0 by omega)] at hQ
        simp (disch := omega) only [E239, o1, o0, List.cons_append, List.nil_append, B242_40, K.k0, K.pat, K.kat, K.lat, M.ns, true_and, ga]
        refine S237 K M O hq.1 ?_
        rw [show W.cur.cnt q a (w32 (shl32 1 W.cur.ns - 1)) W.cur.ns.toNat = W.cur.has q a from rfl]
        simp (disch := omega) only [B242_43, o1, o0, List.cons_append, List.nil_append, w32_id]
        have fin : ∀ x v, v = W.cur.bnd q a lf m → Rn (d + 3) 242 73 [xR 138, xI q, xI a, xI lf, xI m, xI W.cur.ns, xI x] [xL v, xR 138] g h Q := by
          intro x v hv
          have hv2 : 0 ≤ v ∧ v ≤ 16 := by
            rw [hv]
            unfold St.bnd
            split <;> split <;> omega
          rw [B242_73, ga K.k0, w32_id (by omega) (by omega)]
          refine S163 K.k0 hv2.1 (by omega) (by omega) (by omega) ?_
          simp only [E242, B242_14, B242_27, B242_32, B242_40, B242_43, B242_73, B242_81, o1, o0, List.cons_append, List.nil_append, g11]
          rw [hv]
          exact mtl C (fun _ _ _ _ => rfl) (fun _ _ => rfl) (fun _ _ => rfl) hQ
        by_cases hm : m = 0
        · rw [if_pos hm]
          exact fin _ _ (by unfold St.bnd; rw [if_pos hm]; split <;> split <;> omega)
        · rw [if_neg hm]
          exact fin _ _ (by unfold St.bnd; rw [if_neg hm])
      · rw [if_neg h1]; exact no (fun z => by omega)
  · rw [bzf hq]
    simp only [B242_14, o1, o0, List.cons_append, List.nil_append, ite_not, bzF, bzT, if_true, if_false, ↓reduceIte, Int.reduceEq, Int.reduceLE, Int.reduceLT, Int.reduceNeg, ne_eq, not_true_eq_false, not_false_eq_true, and_self, and_true, true_and, and_false, false_and, eq_self]
    exact no (fun z => hq z.1)
