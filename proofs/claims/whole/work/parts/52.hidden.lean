/-! hidden -/
def Wd.hidn (W : Wd) (q : Int) : Int × Int := if W.hm = -1 then (6, -1) else if 0 ≤ q ∧ q < W.hm then (0, W.hd q) else (1, -1)
theorem C124 {W : Wd} {q : Int} : Ci 124 [xR 0, xI q] 3 W (W.hidn q) := by
  intro g h C d Q hQ
  have C0 := C
  obtain ⟨l, r, l2, r2, C1, C2, C3, C4, C5, C6, C7⟩ := C
  unfold Wd.hidn at hQ
  rcases C3.hd with hm | ⟨m0, m6, hd⟩
  · rw [if_pos hm] at hQ
    simp only [E124, B124_14, B124_28, B124_36, B124_46, B124_49, o1, o0, List.cons_append, List.nil_append, C3.k0, C3.hm, hm, ite_not, bzF, bzT, if_true, if_false, ↓reduceIte, Int.reduceEq, Int.reduceLE, Int.reduceLT, Int.reduceNeg, ne_eq, not_true_eq_false, not_false_eq_true, and_self, and_true, true_and, and_false, false_and, eq_self, S133 (k := C3.k0), S134 (k := C3.k0), S135 (k := C3.k0), S136 (k := C3.k0)]
    exact cst C0 hQ
  · have hm : ¬ W.hm = -1 := by omega
    rw [if_neg hm] at hQ
    simp (disch := omega) only [E124, o1, o0, List.cons_append, List.nil_append, C3.k0, C3.hm, hm, ite_not, bzF, bzT, if_true, if_false, ↓reduceIte, Int.reduceEq, Int.reduceLE, Int.reduceLT, Int.reduceNeg, ne_eq, not_true_eq_false, not_false_eq_true, and_self, and_true, true_and, and_false, false_and, eq_self, S146, w32_id]
    by_cases hq : 0 ≤ q ∧ q < W.hm
    · rw [if_pos hq] at hQ
      rw [bzt (show 0 ≤ q ∧ q ≤ W.hm - 1 by omega)]
      simp (disch := omega) only [B124_28, o1, o0, List.cons_append, List.nil_append, C3.k0, ite_not, bzF, bzT, if_true, if_false, ↓reduceIte, Int.reduceEq, Int.reduceLE, Int.reduceLT, Int.reduceNeg, ne_eq, not_true_eq_false, not_false_eq_true, and_self, and_true, true_and, and_false, false_and, eq_self, S151, hd q hq.1 hq.2]
      simp only [E124, B124_14, B124_28, B124_36, B124_46, B124_49, o1, o0, List.cons_append, List.nil_append, C3.k0, ite_not, bzF, bzT, if_true, if_false, ↓reduceIte, Int.reduceEq, Int.reduceLE, Int.reduceLT, Int.reduceNeg, ne_eq, not_true_eq_false, not_false_eq_true, and_self, and_true, true_and, and_false, false_and, eq_self, S133 (k := C3.k0), S134 (k := C3.k0), S135 (k := C3.k0), S136 (k := C3.k0)]
      exact cst C0 hQ
    · rw [if_neg hq] at hQ
      rw [bzf (show ¬ (0 ≤ q ∧ q ≤ W.hm - 1) by omega)]
      simp only [E124, B124_14, B124_28, B124_36, B124_46, B124_49, o1, o0, List.cons_append, List.nil_append, C3.k0, ite_not, bzF, bzT, if_true, if_false, ↓reduceIte, Int.reduceEq, Int.reduceLE, Int.reduceLT, Int.reduceNeg, ne_eq, not_true_eq_false, not_false_eq_true, and_self, and_true, true_and, and_false, false_and, eq_self, S133 (k := C3.k0), S134 (k := C3.k0), S135 (k := C3.k0), S136 (k := C3.k0)]
      exact cst C0 hQ
theorem C252 {W : Wd} {q : Int} (hw : W.hm = -1 ∨ (0 ≤ W.hm ∧ W.hm ≤ 6)) : Mi 252 [xR 138, xI q] 2 W (W.hidn q) := by
  intro g h C O d Q hQ
  have K := C.1
  have X := C.2.1
  unfold Wd.hidn at hQ
  rcases hw with hm | ⟨m0, m6⟩
  · rw [if_pos hm] at hQ
    simp only [E252, B252_14, B252_27, B252_32, B252_45, o1, o0, List.cons_append, List.nil_append, K.k0, X.hm, hm, ite_not, bzF, bzT, if_true, if_false, ↓reduceIte, Int.reduceEq, Int.reduceLE, Int.reduceLT, Int.reduceNeg, ne_eq, not_true_eq_false, not_false_eq_true, and_self, and_true, true_and, and_false, false_and, eq_self, S160 (k := K.k0), S161 (k := K.k0), S162 (k := K.k0)]
    exact mst C hQ
  · have hm : ¬ W.hm = -1 := by omega
    rw [if_neg hm] at hQ
    simp only [E252, o1, o0, List.cons_append, List.nil_append, K.k0, X.hm, hm, ite_not, bzF, bzT, if_true, if_false, ↓reduceIte, Int.reduceEq, Int.reduceLE, Int.reduceLT, Int.reduceNeg, ne_eq, not_true_eq_false, not_false_eq_true, and_self, and_true, true_and, and_false, false_and, eq_self]
    by_cases hq : 0 ≤ q ∧ q < W.hm
    · rw [if_pos hq] at hQ
      rw [if_neg (by omega), if_pos hq.2]
      have e := C.2.2.hd q hq.1 hq.2
      simp (disch := omega) only [E252, B252_14, B252_27, B252_32, B252_45, o1, o0, List.cons_append, List.nil_append, K.k0, K.p34, K.k152, K.l152, e, ga, true_and, S160 (k := K.k0), S161 (k := K.k0), S162 (k := K.k0)]
      exact mst C hQ
    · rw [if_neg hq] at hQ
      by_cases h0 : q < 0
      · rw [if_pos h0]
        simp only [E252, B252_14, B252_27, B252_32, B252_45, o1, o0, List.cons_append, List.nil_append, K.k0, ite_not, bzF, bzT, if_true, if_false, ↓reduceIte, Int.reduceEq, Int.reduceLE, Int.reduceLT, Int.reduceNeg, ne_eq, not_true_eq_false, not_false_eq_true, and_self, and_true, true_and, and_false, false_and, eq_self, S160 (k := K.k0), S161 (k := K.k0), S162 (k := K.k0)]
        exact mst C hQ
      · rw [if_neg h0, if_neg (by omega)]
        simp only [E252, B252_14, B252_27, B252_32, B252_45, o1, o0, List.cons_append, List.nil_append, K.k0, ite_not, bzF, bzT, if_true, if_false, ↓reduceIte, Int.reduceEq, Int.reduceLE, Int.reduceLT, Int.reduceNeg, ne_eq, not_true_eq_false, not_false_eq_true, and_self, and_true, true_and, and_false, false_and, eq_self, S160 (k := K.k0), S161 (k := K.k0), S162 (k := K.k0)]
        exact mst C hQ
