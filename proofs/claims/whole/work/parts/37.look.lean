/-! question, way, sheetWeight, look, weight -/
def Ci (k : Nat) (as : List KV) (H : Nat) (W : Wd) (r : Int × Int) : Prop := Cans k as H W (W.st r.1) (xI r.2)
def Mi (k : Nat) (as : List KV) (H : Nat) (W : Wd) (r : Int × Int) : Prop := Mans k as H W (W.st r.1) (xI r.2)
def Wd.quest (W : Wd) (q w : Int) : Int × Int := if (0 ≤ q ∧ q < W.cur.nq) ∧ 0 ≤ w ∧ w ≤ 2 then (if w = 0 then (0, W.cur.ch q) else if W.cur.gb (w - 1) q = -1 then (6, -1) else (0, W.cur.gb (w - 1) q)) else (1, -1)
theorem C102 {W : Wd} {q w : Int} : Ci 102 [xR 0, xI q, xI w] 3 W (W.quest q w) := by
  intro g h C d Q hQ
  have C0 := C
  obtain ⟨l, r, l2, r2, C1, C2, C3, C4, C5, C6, C7⟩ := C
  have hn := C7.O.nq
  have hl : 0 ≤ l := by have := C7.l; omega
  rw [E102, ga C3.k0, S140 C3 C7]
  by_cases hq : 0 ≤ q ∧ q < W.cur.nq
  · rw [bzt hq]
    simp only [B102_5, o1, o0, List.cons_append, List.nil_append, ite_not, bzF, bzT, if_true, if_false, ↓reduceIte, Int.reduceEq, Int.reduceLE, Int.reduceLT, Int.reduceNeg, ne_eq, not_true_eq_false, not_false_eq_true, and_self, and_true, true_and, and_false, false_and, eq_self, S146]
    by_cases hw : 0 ≤ w ∧ w ≤ 2
    · rw [bzt hw]
      have hch := C7.S.L.ch q hq
      have h2 : ¬ W.cur.ch q = -1 := by have := C7.O.ch q hq; omega
      have hw : w = 0 ∨ w = 1 ∨ w = 2 := by omega
      rcases hw with rfl | rfl | rfl
      · have e : W.quest q 0 = (0, W.cur.ch q) := by unfold Wd.quest; simp [hq]
        rw [e] at hQ
        simp (disch := omega) only [E102, B102_5, B102_17, B102_20, B102_25, B102_48, B102_65, B102_84, B102_93, C3.k0, C3.p4, C7.S.k0, C7.S.pl, C7.S.pr, C7.S.ns, C7.S.L.k0, C7.S.L.p2, C7.S.L.p3, C7.S.L.p4, C7.S.L.k2, C7.S.L.l2, C7.S.L.nq, C7.S.L.nd, C7.S.L.wk, C7.S.L.ca, C7.S.L.cm, C7.S.R.k0, C7.S.R.nr, C7.S.L.tl.k0, C7.S.L.tm.k0, true_and, o1, o0, List.cons_append, List.nil_append, ga, ite_not, bzF, bzT, if_true, if_false, ↓reduceIte, Int.reduceEq, Int.reduceLE, Int.reduceLT, Int.reduceNeg, ne_eq, not_true_eq_false, not_false_eq_true, and_self, and_true, true_and, and_false, false_and, eq_self, hch, S133 (k := C3.k0), S134 (k := C3.k0), S135 (k := C3.k0), S136 (k := C3.k0)]
        exact cst C0 hQ
      · have hb := C7.S.L.tl.b q hq
        by_cases h1 : W.cur.gb 0 q = -1
        · have e : W.quest q 1 = (6, -1) := by unfold Wd.quest; simp [hq, h1]
          rw [e] at hQ
          simp (disch := omega) only [E102, B102_5, B102_17, B102_20, B102_25, B102_48, B102_65, B102_84, B102_93, C3.k0, C3.p4, C7.S.k0, C7.S.pl, C7.S.pr, C7.S.ns, C7.S.L.k0, C7.S.L.p2, C7.S.L.p3, C7.S.L.p4, C7.S.L.k2, C7.S.L.l2, C7.S.L.nq, C7.S.L.nd, C7.S.L.wk, C7.S.L.ca, C7.S.L.cm, C7.S.R.k0, C7.S.R.nr, C7.S.L.tl.k0, C7.S.L.tm.k0, true_and, o1, o0, List.cons_append, List.nil_append, ga, ite_not, bzF, bzT, if_true, if_false, ↓reduceIte, Int.reduceEq, Int.reduceLE, Int.reduceLT, Int.reduceNeg, ne_eq, not_true_eq_false, not_false_eq_true, and_self, and_true, true_and, and_false, false_and, eq_self, hb, C7.S.L.tl.p0, C7.S.L.tl.k1, C7.S.L.tl.l1, h1, S133 (k := C3.k0), S134 (k := C3.k0), S135 (k := C3.k0), S136 (k := C3.k0)]
          exact cst C0 hQ
        · have e : W.quest q 1 = (0, W.cur.gb 0 q) := by unfold Wd.quest; simp [hq, h1]
          rw [e] at hQ
          simp (disch := omega) only [E102, B102_5, B102_17, B102_20, B102_25, B102_48, B102_65, B102_84, B102_93, C3.k0, C3.p4, C7.S.k0, C7.S.pl, C7.S.pr, C7.S.ns, C7.S.L.k0, C7.S.L.p2, C7.S.L.p3, C7.S.L.p4, C7.S.L.k2, C7.S.L.l2, C7.S.L.nq, C7.S.L.nd, C7.S.L.wk, C7.S.L.ca, C7.S.L.cm, C7.S.R.k0, C7.S.R.nr, C7.S.L.tl.k0, C7.S.L.tm.k0, true_and, o1, o0, List.cons_append, List.nil_append, ga, ite_not, bzF, bzT, if_true, if_false, ↓reduceIte, Int.reduceEq, Int.reduceLE, Int.reduceLT, Int.reduceNeg, ne_eq, not_true_eq_false, not_false_eq_true, and_self, and_true, true_and, and_false, false_and, eq_self, hb, C7.S.L.tl.p0, C7.S.L.tl.k1, C7.S.L.tl.l1, h1, S133 (k := C3.k0), S134 (k := C3.k0), S135 (k := C3.k0), S136 (k := C3.k0)]
          exact cst C0 hQ
      · have hb := C7.S.L.tm.b q hq
        by_cases h1 : W.cur.gb 1 q = -1
        · have e : W.quest q 2 = (6, -1) := by unfold Wd.quest; simp [hq, h1]
          rw [e] at hQ
          simp (disch := omega) only [E102, B102_5, B102_17, B102_20, B102_25, B102_48, B102_65, B102_84, B102_93, C3.k0, C3.p4, C7.S.k0, C7.S.pl, C7.S.pr, C7.S.ns, C7.S.L.k0, C7.S.L.p2, C7.S.L.p3, C7.S.L.p4, C7.S.L.k2, C7.S.L.l2, C7.S.L.nq, C7.S.L.nd, C7.S.L.wk, C7.S.L.ca, C7.S.L.cm, C7.S.R.k0, C7.S.R.nr, C7.S.L.tl.k0, C7.S.L.tm.k0, true_and, o1, o0, List.cons_append, List.nil_append, ga, ite_not, bzF, bzT, if_true, if_false, ↓reduceIte, Int.reduceEq, Int.reduceLE, Int.reduceLT, Int.reduceNeg, ne_eq, not_true_eq_false, not_false_eq_true, and_self, and_true, true_and, and_false, false_and, eq_self, hb, C7.S.L.tm.p0, C7.S.L.tm.k1, C7.S.L.tm.l1, h1, S133 (k := C3.k0), S134 (k := C3.k0), S135 (k := C3.k0), S136 (k := C3.k0)]
          exact cst C0 hQ
        · have e : W.quest q 2 = (0, W.cur.gb 1 q) := by unfold Wd.quest; simp [hq, h1]
          rw [e] at hQ
          simp (disch := omega) only [E102, B102_5, B102_17, B102_20, B102_25, B102_48, B102_65, B102_84, B102_93, C3.k0, C3.p4, C7.S.k0, C7.S.pl, C7.S.pr, C7.S.ns, C7.S.L.k0, C7.S.L.p2, C7.S.L.p3, C7.S.L.p4, C7.S.L.k2, C7.S.L.l2, C7.S.L.nq, C7.S.L.nd, C7.S.L.wk, C7.S.L.ca, C7.S.L.cm, C7.S.R.k0, C7.S.R.nr, C7.S.L.tl.k0, C7.S.L.tm.k0, true_and, o1, o0, List.cons_append, List.nil_append, ga, ite_not, bzF, bzT, if_true, if_false, ↓reduceIte, Int.reduceEq, Int.reduceLE, Int.reduceLT, Int.reduceNeg, ne_eq, not_true_eq_false, not_false_eq_true, and_self, and_true, true_and, and_false, false_and, eq_self, hb, C7.S.L.tm.p0, C7.S.L.tm.k1, C7.S.L.tm.l1, h1, S133 (k := C3.k0), S134 (k := C3.k0), S135 (k := C3.k0), S136 (k := C3.k0)]
          exact cst C0 hQ
    · have e : W.quest q w = (1, -1) := by unfold Wd.quest; rw [if_neg (fun z => hw z.2)]
      rw [e] at hQ
      rw [bzf hw]
      simp only [E102, B102_5, B102_17, B102_20, B102_25, B102_48, B102_65, B102_84, B102_93, C3.k0, C3.p4, C7.S.k0, C7.S.pl, C7.S.pr, C7.S.ns, C7.S.L.k0, C7.S.L.p2, C7.S.L.p3, C7.S.L.p4, C7.S.L.k2, C7.S.L.l2, C7.S.L.nq, C7.S.L.nd, C7.S.L.wk, C7.S.L.ca, C7.S.L.cm, C7.S.R.k0, C7.S.R.nr, C7.S.L.tl.k0, C7.S.L.tm.k0, true_and, o1, o0, List.cons_append, List.nil_append, ite_not, bzF, bzT, if_true, if_false, ↓reduceIte, Int.reduceEq, Int.reduceLE, Int.reduceLT, Int.reduceNeg, ne_eq, not_true_eq_false, not_false_eq_true, and_self, and_true, true_and, and_false, false_and, eq_self, S133 (k := C3.k0), S134 (k := C3.k0), S135 (k := C3.k0), S136 (k := C3.k0)]
      exact cst C0 hQ
  · have e : W.quest q w = (1, -1) := by unfold Wd.quest; rw [if_neg (fun z => hq z.1)]
    rw [e] at hQ
    rw [bzf hq]
    simp only [E102, B102_5, B102_17, B102_20, B102_25, B102_48, B102_65, B102_84, B102_93, C3.k0, C3.p4, C7.S.k0, C7.S.pl, C7.S.pr, C7.S.ns, C7.S.L.k0, C7.S.L.p2, C7.S.L.p3, C7.S.L.p4, C7.S.L.k2, C7.S.L.l2, C7.S.L.nq, C7.S.L.nd, C7.S.L.wk, C7.S.L.ca, C7.S.L.cm, C7.S.R.k0, C7.S.R.nr, C7.S.L.tl.k0, C7.S.L.tm.k0, true_and, o1, o0, List.cons_append, List.nil_append, ite_not, bzF, bzT, if_true, if_false, ↓reduceIte, Int.reduceEq, Int.reduceLE, Int.reduceLT, Int.reduceNeg, ne_eq, not_true_eq_false, not_false_eq_true, and_self, and_true, true_and, and_false, false_and, eq_self, S133 (k := C3.k0), S134 (k := C3.k0), S135 (k := C3.k0), S136 (k := C3.k0)]
    exact cst C0 hQ
theorem C207 {W : Wd} {q w : Int} : Mi 207 [xR 138, xI q, xI w] 3 W (W.quest q w) := by
  intro g h C O d Q hQ
  have K := C.1
  have M := C.2.2.cur
  have hn := O.nq
  rw [E207, ga K.k0, S199 K M]
  by_cases hq : 0 ≤ q ∧ q < W.cur.nq
  · rw [bzt hq]
    by_cases hw : 0 ≤ w ∧ w ≤ 2
    · have hw : w = 0 ∨ w = 1 ∨ w = 2 := by omega
      have h2 : ¬ W.cur.ch q = -1 := by have := O.ch q hq; omega
      rcases hw with rfl | rfl | rfl
      · have e : W.quest q 0 = (0, W.cur.ch q) := by unfold Wd.quest; simp [hq]
        rw [e] at hQ
        have hc := M.ch q hq
        rw [show (8 + 3 * q : Int) = 8 + 3 * q + 0 by omega] at hc
        simp (disch := omega) only [E207, B207_5, B207_17, B207_22, B207_48, B207_56, o1, o0, List.cons_append, List.nil_append, ite_not, bzF, bzT, if_true, if_false, ↓reduceIte, Int.reduceEq, Int.reduceLE, Int.reduceLT, Int.reduceNeg, ne_eq, not_true_eq_false, not_false_eq_true, and_self, and_true, true_and, and_false, false_and, eq_self, K.k0, K.pat, K.kat, K.lat, ga, w32_id, hc, h2, S160 (k := K.k0), S161 (k := K.k0), S162 (k := K.k0)]
        exact mst C hQ
      · have hb := M.gb 0 q (Or.inl rfl) hq
        rw [show (8 + 3 * q + 1 + 0 : Int) = 8 + 3 * q + 1 by omega] at hb
        by_cases h1 : W.cur.gb 0 q = -1
        · have e : W.quest q 1 = (6, -1) := by unfold Wd.quest; simp [hq, h1]
          rw [e] at hQ
          simp (disch := omega) only [E207, B207_5, B207_17, B207_22, B207_48, B207_56, o1, o0, List.cons_append, List.nil_append, ite_not, bzF, bzT, if_true, if_false, ↓reduceIte, Int.reduceEq, Int.reduceLE, Int.reduceLT, Int.reduceNeg, ne_eq, not_true_eq_false, not_false_eq_true, and_self, and_true, true_and, and_false, false_and, eq_self, K.k0, K.pat, K.kat, K.lat, ga, w32_id, hb, h1, S160 (k := K.k0), S161 (k := K.k0), S162 (k := K.k0)]
          exact mst C hQ
        · have e : W.quest q 1 = (0, W.cur.gb 0 q) := by unfold Wd.quest; simp [hq, h1]
          rw [e] at hQ
          simp (disch := omega) only [E207, B207_5, B207_17, B207_22, B207_48, B207_56, o1, o0, List.cons_append, List.nil_append, ite_not, bzF, bzT, if_true, if_false, ↓reduceIte, Int.reduceEq, Int.reduceLE, Int.reduceLT, Int.reduceNeg, ne_eq, not_true_eq_false, not_false_eq_true, and_self, and_true, true_and, and_false, false_and, eq_self, K.k0, K.pat, K.kat, K.lat, ga, w32_id, hb, h1, S160 (k := K.k0), S161 (k := K.k0), S162 (k := K.k0)]
          exact mst C hQ
      · have hb := M.gb 1 q (Or.inr rfl) hq
        rw [show (8 + 3 * q + 1 + 1 : Int) = 8 + 3 * q + 2 by omega] at hb
        by_cases h1 : W.cur.gb 1 q = -1
        · have e : W.quest q 2 = (6, -1) := by unfold Wd.quest; simp [hq, h1]
          rw [e] at hQ
          simp (disch := omega) only [E207, B207_5, B207_17, B207_22, B207_48, B207_56, o1, o0, List.cons_append, List.nil_append, ite_not, bzF, bzT, if_true, if_false, ↓reduceIte, Int.reduceEq, Int.reduceLE, Int.reduceLT, Int.reduceNeg, ne_eq, not_true_eq_false, not_false_eq_true, and_self, and_true, true_and, and_false, false_and, eq_self, K.k0, K.pat, K.kat, K.lat, ga, w32_id, hb, h1, S160 (k := K.k0), S161 (k := K.k0), S162 (k := K.k0)]
          exact mst C hQ
        · have e : W.quest q 2 = (0, W.cur.gb 1 q) := by unfold Wd.quest; simp [hq, h1]
          rw [e] at hQ
          simp (disch := omega) only [E207, B207_5, B207_17, B207_22, B207_48, B207_56, o1, o0, List.cons_append, List.nil_append, ite_not, bzF, bzT, if_true, if_false, ↓reduceIte, Int.reduceEq, Int.reduceLE, Int.reduceLT, Int.reduceNeg, ne_eq, not_true_eq_false, not_false_eq_true, and_self, and_true, true_and, and_false, false_and, eq_self, K.k0, K.pat, K.kat, K.lat, ga, w32_id, hb, h1, S160 (k := K.k0), S161 (k := K.k0), S162 (k := K.k0)]
          exact mst C hQ
    · have e : W.quest q w = (1, -1) := by unfold Wd.quest; rw [if_neg (fun z => hw z.2)]
      rw [e] at hQ
      simp only [B207_5, o1, o0, List.cons_append, List.nil_append, ite_not, bzF, bzT, if_true, if_false, ↓reduceIte, Int.reduceEq, Int.reduceLE, Int.reduceLT, Int.reduceNeg, ne_eq, not_true_eq_false, not_false_eq_true, and_self, and_true, true_and, and_false, false_and, eq_self]
      by_cases h1 : w < 0
      · rw [if_pos h1]
        simp only [E207, B207_5, B207_17, B207_22, B207_48, B207_56, K.k0, o1, o0, List.cons_append, List.nil_append, ite_not, bzF, bzT, if_true, if_false, ↓reduceIte, Int.reduceEq, Int.reduceLE, Int.reduceLT, Int.reduceNeg, ne_eq, not_true_eq_false, not_false_eq_true, and_self, and_true, true_and, and_false, false_and, eq_self, S160 (k := K.k0), S161 (k := K.k0), S162 (k := K.k0)]
        exact mst C hQ
      · rw [if_neg h1, if_neg (by omega)]
        simp only [E207, B207_5, B207_17, B207_22, B207_48, B207_56, K.k0, o1, o0, List.cons_append, List.nil_append, ite_not, bzF, bzT, if_true, if_false, ↓reduceIte, Int.reduceEq, Int.reduceLE, Int.reduceLT, Int.reduceNeg, ne_eq, not_true_eq_false, not_false_eq_true, and_self, and_true, true_and, and_false, false_and, eq_self, S160 (k := K.k0), S161 (k := K.k0), S162 (k := K.k0)]
        exact mst C hQ
  · have e : W.quest q w = (1, -1) := by unfold Wd.quest; rw [if_neg (fun z => hq z.1)]
    rw [e] at hQ
    rw [bzf hq]
    simp only [E207, B207_5, B207_17, B207_22, B207_48, B207_56, K.k0, o1, o0, List.cons_append, List.nil_append, ite_not, bzF, bzT, if_true, if_false, ↓reduceIte, Int.reduceEq, Int.reduceLE, Int.reduceLT, Int.reduceNeg, ne_eq, not_true_eq_false, not_false_eq_true, and_self, and_true, true_and, and_false, false_and, eq_self, S160 (k := K.k0), S161 (k := K.k0), S162 (k := K.k0)]
    exact mst C hQ
/-! way -/
def Wd.way (W : Wd) (a b : Int) : Int × Int := if (0 ≤ a ∧ a < W.cur.nd) ∧ 0 ≤ b ∧ b < W.cur.nd then (0, W.cur.mins a b) else (1, -1)
theorem C111 {W : Wd} {a b : Int} : Ci 111 [xR 0, xI a, xI b] 3 W (W.way a b) := by
  intro g h C d Q hQ
  have C0 := C
  obtain ⟨l, r, l2, r2, C1, C2, C3, C4, C5, C6, C7⟩ := C
  rw [E111, ga C3.k0, S142 C3 C7]
  by_cases ha : 0 ≤ a ∧ a < W.cur.nd
  · rw [bzt ha]
    simp only [B111_5, o1, o0, List.cons_append, List.nil_append, ite_not, bzF, bzT, if_true, if_false, ↓reduceIte, Int.reduceEq, Int.reduceLE, Int.reduceLT, Int.reduceNeg, ne_eq, not_true_eq_false, not_false_eq_true, and_self, and_true, true_and, and_false, false_and, eq_self, C3.k0, S142 C3 C7]
    by_cases hb : 0 ≤ b ∧ b < W.cur.nd
    · have e : W.way a b = (0, W.cur.mins a b) := by unfold Wd.way; rw [if_pos ⟨ha, hb⟩]
      rw [e] at hQ
      rw [bzt hb]
      simp only [B111_13, o1, o0, List.cons_append, List.nil_append, ite_not, bzF, bzT, if_true, if_false, ↓reduceIte, Int.reduceEq, Int.reduceLE, Int.reduceLT, Int.reduceNeg, ne_eq, not_true_eq_false, not_false_eq_true, and_self, and_true, true_and, and_false, false_and, eq_self, C3.k0, C3.p4, C7.S.k0, C7.S.pl, C7.S.pr, C7.S.ns, C7.S.L.k0, C7.S.L.p2, C7.S.L.p3, C7.S.L.p4, C7.S.L.k2, C7.S.L.l2, C7.S.L.nq, C7.S.L.nd, C7.S.L.wk, C7.S.L.ca, C7.S.L.cm, C7.S.R.k0, C7.S.R.nr, C7.S.L.tl.k0, C7.S.L.tm.k0, true_and]
      refine S24 C7.S.L C7.O ha hb ?_
      simp only [E111, B111_5, B111_13, B111_16, B111_21, B111_35, B111_38, o1, o0, List.cons_append, List.nil_append, C3.k0, C3.p4, C7.S.k0, C7.S.pl, C7.S.pr, C7.S.ns, C7.S.L.k0, C7.S.L.p2, C7.S.L.p3, C7.S.L.p4, C7.S.L.k2, C7.S.L.l2, C7.S.L.nq, C7.S.L.nd, C7.S.L.wk, C7.S.L.ca, C7.S.L.cm, C7.S.R.k0, C7.S.R.nr, C7.S.L.tl.k0, C7.S.L.tm.k0, true_and, S133 (k := C3.k0), S134 (k := C3.k0), S135 (k := C3.k0), S136 (k := C3.k0)]
      exact cst C0 hQ
    · have e : W.way a b = (1, -1) := by unfold Wd.way; rw [if_neg (fun z => hb z.2)]
      rw [e] at hQ
      rw [bzf hb]
      simp only [E111, B111_5, B111_13, B111_16, B111_21, B111_35, B111_38, o1, o0, List.cons_append, List.nil_append, C3.k0, C3.p4, C7.S.k0, C7.S.pl, C7.S.pr, C7.S.ns, C7.S.L.k0, C7.S.L.p2, C7.S.L.p3, C7.S.L.p4, C7.S.L.k2, C7.S.L.l2, C7.S.L.nq, C7.S.L.nd, C7.S.L.wk, C7.S.L.ca, C7.S.L.cm, C7.S.R.k0, C7.S.R.nr, C7.S.L.tl.k0, C7.S.L.tm.k0, true_and, ite_not, bzF, bzT, if_true, if_false, ↓reduceIte, Int.reduceEq, Int.reduceLE, Int.reduceLT, Int.reduceNeg, ne_eq, not_true_eq_false, not_false_eq_true, and_self, and_true, true_and, and_false, false_and, eq_self, S133 (k := C3.k0), S134 (k := C3.k0), S135 (k := C3.k0), S136 (k := C3.k0)]
      exact cst C0 hQ
  · have e : W.way a b = (1, -1) := by unfold Wd.way; rw [if_neg (fun z => ha z.1)]
    rw [e] at hQ
    rw [bzf ha]
    simp only [E111, B111_5, B111_13, B111_16, B111_21, B111_35, B111_38, o1, o0, List.cons_append, List.nil_append, C3.k0, C3.p4, C7.S.k0, C7.S.pl, C7.S.pr, C7.S.ns, C7.S.L.k0, C7.S.L.p2, C7.S.L.p3, C7.S.L.p4, C7.S.L.k2, C7.S.L.l2, C7.S.L.nq, C7.S.L.nd, C7.S.L.wk, C7.S.L.ca, C7.S.L.cm, C7.S.R.k0, C7.S.R.nr, C7.S.L.tl.k0, C7.S.L.tm.k0, true_and, ite_not, bzF, bzT, if_true, if_false, ↓reduceIte, Int.reduceEq, Int.reduceLE, Int.reduceLT, Int.reduceNeg, ne_eq, not_true_eq_false, not_false_eq_true, and_self, and_true, true_and, and_false, false_and, eq_self, S133 (k := C3.k0), S134 (k := C3.k0), S135 (k := C3.k0), S136 (k := C3.k0)]
    exact cst C0 hQ
theorem S222 {g : KG} {h : KH} {A : St} (K : MK g h) (M : MS (h 139) A) (O : A.Ok) {a b : Int} (ha : 0 ≤ a ∧ a < A.nd) (hb : 0 ≤ b ∧ b < A.nd) {d : Nat} {Q : Option KV → KG → KH → Prop} (hQ : Q (some (xI (A.steps a b))) g h) : Cl (d + 1) 222 [xR 138, xI a, xI b] g h Q := by
  have hn := O.nd
  have h1 := O.dx a ha.1 ha.2
  have h2 := O.dx b hb.1 hb.2
  have h3 := O.dy a ha.1 ha.2
  have h4 := O.dy b hb.1 hb.2
  simp (disch := omega) only [E222, B222_35, B222_60, K.k0, K.pat, K.kat, K.lat, true_and, ga, M.dx a ha.1 ha.2, M.dx b hb.1 hb.2, M.dy a ha.1 ha.2, M.dy b hb.1 hb.2, w32_id]
  exact hQ
theorem S223 {g : KG} {h : KH} {A : St} (K : MK g h) (M : MS (h 139) A) (O : A.Ok) {a b : Int} (ha : 0 ≤ a ∧ a < A.nd) (hb : 0 ≤ b ∧ b < A.nd) {d : Nat} {Q : Option KV → KG → KH → Prop} (hQ : Q (some (xI (A.mins a b))) g h) : Cl (d + 2) 223 [xR 138, xI a, xI b] g h Q := by
  have h1 := O.walkm ha hb
  rw [E223, ga K.k0]
  refine S222 K M O ha hb ?_
  simp (disch := omega) only [E223, B223_6, K.k0, K.pat, K.kat, K.lat, M.wk, true_and, ga, o1, o0, List.cons_append, List.nil_append, w32_id]
  have e : w32 (Int.tdiv (A.steps a b * A.wk + 9) 10) = A.mins a b := by
    rw [Int.tdiv_eq_ediv_of_nonneg (by omega)]
    unfold St.mins
    exact w32_id (by omega) (by omega)
  rw [e]
  exact hQ
theorem C224 {W : Wd} {a b : Int} : Mi 224 [xR 138, xI a, xI b] 3 W (W.way a b) := by
  intro g h C O d Q hQ
  have K := C.1
  have M := C.2.2.cur
  rw [E224, ga K.k0, S201 K M]
  by_cases ha : 0 ≤ a ∧ a < W.cur.nd
  · rw [bzt ha]
    simp only [B224_6, o1, o0, List.cons_append, List.nil_append, ite_not, bzF, bzT, if_true, if_false, ↓reduceIte, Int.reduceEq, Int.reduceLE, Int.reduceLT, Int.reduceNeg, ne_eq, not_true_eq_false, not_false_eq_true, and_self, and_true, true_and, and_false, false_and, eq_self, K.k0, S201 K M]
    by_cases hb : 0 ≤ b ∧ b < W.cur.nd
    · have e : W.way a b = (0, W.cur.mins a b) := by unfold Wd.way; rw [if_pos ⟨ha, hb⟩]
      rw [e] at hQ
      rw [bzt hb]
      simp only [B224_15, o1, o0, List.cons_append, List.nil_append, ite_not, bzF, bzT, if_true, if_false, ↓reduceIte, Int.reduceEq, Int.reduceLE, Int.reduceLT, Int.reduceNeg, ne_eq, not_true_eq_false, not_false_eq_true, and_self, and_true, true_and, and_false, false_and, eq_self, K.k0]
      refine S223 K M O ha hb ?_
      simp only [E224, B224_6, B224_15, B224_25, B224_28, B224_31, B224_36, o1, o0, List.cons_append, List.nil_append, K.k0, true_and, S160 (k := K.k0), S161 (k := K.k0), S162 (k := K.k0)]
      exact mst C hQ
    · have e : W.way a b = (1, -1) := by unfold Wd.way; rw [if_neg (fun z => hb z.2)]
      rw [e] at hQ
      rw [bzf hb]
      simp only [E224, B224_6, B224_15, B224_25, B224_28, B224_31, B224_36, o1, o0, List.cons_append, List.nil_append, K.k0, ite_not, bzF, bzT, if_true, if_false, ↓reduceIte, Int.reduceEq, Int.reduceLE, Int.reduceLT, Int.reduceNeg, ne_eq, not_true_eq_false, not_false_eq_true, and_self, and_true, true_and, and_false, false_and, eq_self, S160 (k := K.k0), S161 (k := K.k0), S162 (k := K.k0)]
      exact mst C hQ
  · have e : W.way a b = (1, -1) := by unfold Wd.way; rw [if_neg (fun z => ha z.1)]
    rw [e] at hQ
    rw [bzf ha]
    simp only [E224, B224_6, B224_15, B224_25, B224_28, B224_31, B224_36, o1, o0, List.cons_append, List.nil_append, K.k0, ite_not, bzF, bzT, if_true, if_false, ↓reduceIte, Int.reduceEq, Int.reduceLE, Int.reduceLT, Int.reduceNeg, ne_eq, not_true_eq_false, not_false_eq_true, and_self, and_true, true_and, and_false, false_and, eq_self, S160 (k := K.k0), S161 (k := K.k0), S162 (k := K.k0)]
    exact mst C hQ
/-! sheetWeight -/
def Wd.sw (W : Wd) (s m : Int) : Int × Int := if 0 ≤ s ∧ s < W.cur.ns then (0, W.cur.prod (if m = 0 then W.cur.nq else 0) (W.cur.pa s)) else (1, -1)
