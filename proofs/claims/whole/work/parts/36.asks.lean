/-! what a call asks first, on both sides -/
section ASKS
variable {g : KG} {h : KH} {W : Wd} {l r l2 r2 : Int} {d : Nat} {Q : Option KV → KG → KH → Prop}
theorem S140 (X : CX g h W l2 r2) (T : CS g h W l r l2 r2) (q : Int) : Cl (d + 2) 140 [xR 0, xI q] g h Q = Q (some (xI (bz (0 ≤ q ∧ q < W.cur.nq)))) g h := by
  have hn := T.O.nq
  simp (disch := omega) only [E140, B140_19, X.k0, X.p4, T.S.k0, T.S.pl, T.S.L.k0, T.S.L.nq, S146, true_and, o1, o0, List.cons_append, List.nil_append, w32_id, ga bzr]
  rw [bzc (show (0 ≤ q ∧ q ≤ W.cur.nq - 1) ↔ (0 ≤ q ∧ q < W.cur.nq) by omega)]
theorem S142 (X : CX g h W l2 r2) (T : CS g h W l r l2 r2) (q : Int) : Cl (d + 2) 142 [xR 0, xI q] g h Q = Q (some (xI (bz (0 ≤ q ∧ q < W.cur.nd)))) g h := by
  have hn := T.O.nd
  simp (disch := omega) only [E142, B142_19, X.k0, X.p4, T.S.k0, T.S.pl, T.S.L.k0, T.S.L.nd, S146, true_and, o1, o0, List.cons_append, List.nil_append, w32_id, ga bzr]
  rw [bzc (show (0 ≤ q ∧ q ≤ W.cur.nd - 1) ↔ (0 ≤ q ∧ q < W.cur.nd) by omega)]
theorem S143 (X : CX g h W l2 r2) (T : CS g h W l r l2 r2) (q : Int) : Cl (d + 2) 143 [xR 0, xI q] g h Q = Q (some (xI (bz (0 ≤ q ∧ q < W.cur.ns)))) g h := by
  have hn := T.O.ns
  simp (disch := omega) only [E143, B143_16, X.k0, X.p4, T.S.k0, T.S.ns, S146, true_and, o1, o0, List.cons_append, List.nil_append, w32_id, ga bzr]
  rw [bzc (show (0 ≤ q ∧ q ≤ W.cur.ns - 1) ↔ (0 ≤ q ∧ q < W.cur.ns) by omega)]
theorem S144 (X : CX g h W l2 r2) (T : CS g h W l r l2 r2) (q : Int) : Cl (d + 2) 144 [xR 0, xI q] g h Q = Q (some (xI (bz (0 ≤ q ∧ q < W.cur.nr)))) g h := by
  have hn := T.O.nr
  simp (disch := omega) only [E144, B144_19, X.k0, X.p4, T.S.k0, T.S.pr, T.S.R.k0, T.S.R.nr, S146, true_and, o1, o0, List.cons_append, List.nil_append, w32_id, ga bzr]
  rw [bzc (show (0 ≤ q ∧ q ≤ W.cur.nr - 1) ↔ (0 ≤ q ∧ q < W.cur.nr) by omega)]
theorem S141 (X : CX g h W l2 r2) (T : CS g h W l r l2 r2) (q a : Int) : Cl (d + 3) 141 [xR 0, xI q, xI a] g h Q = Q (some (xI (bz ((0 ≤ q ∧ q < W.cur.nq) ∧ 0 ≤ a ∧ a < W.cur.ch q)))) g h := by
  have hn := T.O.nq
  rw [E141, ga X.k0, S140 X T]
  by_cases hq : 0 ≤ q ∧ q < W.cur.nq
  · have hc := T.O.ch q hq
    have e := T.S.L.ch q hq
    rw [bzt hq, bzc (show ((0 ≤ q ∧ q < W.cur.nq) ∧ 0 ≤ a ∧ a < W.cur.ch q) ↔ (0 ≤ a ∧ a ≤ W.cur.ch q - 1) by omega)]
    simp (disch := omega) only [E141, B141_5, B141_29, B141_36, B141_37, o1, o0, List.cons_append, List.nil_append, X.k0, X.p4, T.S.k0, T.S.pl, T.S.L.k0, T.S.L.p2, T.S.L.k2, T.S.L.l2, e, S146, true_and, ga, w32_id, Int.reduceEq, if_false]
    by_cases ha : 0 ≤ a ∧ a ≤ W.cur.ch q - 1
    · simp only [bzt ha, Int.reduceEq, if_false, g11]
    · simp only [bzf ha, if_true, g01]
  · rw [bzf hq, bzf (fun z => hq z.1)]
    simp only [E141, B141_5, B141_29, B141_36, B141_37, o1, o0, List.cons_append, List.nil_append, if_true, g01]
theorem S199 (K : MK g h) (M : MS (h 139) W.cur) (q : Int) : Cl (d + 1) 199 [xR 138, xI q] g h Q = Q (some (xI (bz (0 ≤ q ∧ q < W.cur.nq)))) g h := by
  simp only [E199, B199_18, B199_19, K.k0, K.pat, K.kat, K.lat, M.nq, true_and, g01, g11]
  by_cases h1 : q < 0
  · rw [if_pos h1, bzf (by omega)]
  · rw [if_neg h1]
    by_cases h2 : W.cur.nq ≤ q
    · rw [if_pos h2, bzf (by omega)]; simp
    · rw [if_neg h2, bzt (by omega)]; simp
theorem S200 (K : MK g h) (M : MS (h 139) W.cur) (q : Int) : Cl (d + 1) 200 [xR 138, xI q] g h Q = Q (some (xI (bz (0 ≤ q ∧ q < W.cur.ns)))) g h := by
  simp only [E200, B200_18, B200_19, K.k0, K.pat, K.kat, K.lat, M.ns, true_and, g01, g11]
  by_cases h1 : q < 0
  · rw [if_pos h1, bzf (by omega)]
  · rw [if_neg h1]
    by_cases h2 : W.cur.ns ≤ q
    · rw [if_pos h2, bzf (by omega)]; simp
    · rw [if_neg h2, bzt (by omega)]; simp
theorem S248 (K : MK g h) (M : MS (h 139) W.cur) (q : Int) : Cl (d + 1) 248 [xR 138, xI q] g h Q = Q (some (xI (bz (0 ≤ q ∧ q < W.cur.nr)))) g h := by
  simp only [E248, B248_18, B248_19, K.k0, K.pat, K.kat, K.lat, M.nr, true_and, g01, g11]
  by_cases h1 : q < 0
  · rw [if_pos h1, bzf (by omega)]
  · rw [if_neg h1]
    by_cases h2 : W.cur.nr ≤ q
    · rw [if_pos h2, bzf (by omega)]; simp
    · rw [if_neg h2, bzt (by omega)]; simp
theorem S201 (K : MK g h) (M : MS (h 139) W.cur) (q : Int) : Cl (d + 1) 201 [xR 138, xL q] g h Q = Q (some (xI (bz (0 ≤ q ∧ q < W.cur.nd)))) g h := by
  simp only [E201, B201_22, B201_23, K.k0, K.pat, K.kat, K.lat, M.nd, true_and, g01, g11, c64lt, c64ge]
  by_cases h1 : q < 0
  · rw [if_pos h1, bzf (by omega)]
  · rw [if_neg h1]
    by_cases h2 : W.cur.nd ≤ q
    · rw [if_pos h2, bzf (by omega)]; simp
    · rw [if_neg h2, bzt (by omega)]; simp
theorem S202 (q : Int) : Cl (d + 1) 202 [xL q] g h Q = Q (some (xI (bz (0 ≤ q ∧ q ≤ 3)))) g h := by
  simp only [E202, B202_18, B202_19, true_and, g01, g11, c64lt, c64ge]
  by_cases h1 : q < 0
  · rw [if_pos h1, bzf (by omega)]
  · rw [if_neg h1]
    by_cases h2 : 4 ≤ q
    · rw [if_pos h2, bzf (by omega)]
    · rw [if_neg h2, bzt (by omega)]
theorem S203 (q a b : Int) : Cl (d + 1) 203 [xL q, xL a, xL b] g h Q = Q (some (xI (bz (a ≤ q ∧ q ≤ b)))) g h := by
  simp only [E203, B203_17, B203_18, true_and, g01, g11, c64lt, c64gt]
  by_cases h1 : q < a
  · rw [if_pos h1, bzf (by omega)]
  · rw [if_neg h1]
    by_cases h2 : b < q
    · rw [if_pos h2, bzf (by omega)]
    · rw [if_neg h2, bzt (by omega)]
theorem S219 (q : Int) : Cl (d + 1) 219 [xI q] g h Q = Q (some (xI (bz (0 ≤ q ∧ q ≤ 16)))) g h := by
  simp only [E219, B219_14, B219_15, true_and, g01, g11]
  by_cases h1 : q < 0
  · rw [if_pos h1, bzf (by omega)]
  · rw [if_neg h1]
    by_cases h2 : 16 < q
    · rw [if_pos h2, bzf (by omega)]
    · rw [if_neg h2, bzt (by omega)]
theorem S164 (q : Int) : Cl (d + 1) 164 [xI q] g h Q = Q (some (xI (bz (0 ≤ q ∧ q ≤ 3)))) g h := by
  simp only [E164, B164_13, B164_14, true_and, g01, g11]
  by_cases h1 : q < 0
  · rw [if_pos h1, bzf (by omega)]
  · rw [if_neg h1]
    by_cases h2 : 4 ≤ q
    · rw [if_pos h2, bzf (by omega)]
    · rw [if_neg h2, bzt (by omega)]
theorem S204 (K : MK g h) (M : MS (h 139) W.cur) (O : W.cur.Ok) {q : Int} (hq : inq W.cur q) : Cl (d + 1) 204 [xR 138, xI q] g h Q = Q (some (xI (W.cur.ch q))) g h := by
  have hn := O.nq
  have h0 := hq.1
  have h1 := hq.2
  simp (disch := omega) only [E204, K.k0, K.pat, K.kat, K.lat, M.ch q hq, true_and, ga, w32_id]
theorem S240 (K : MK g h) (M : MS (h 139) W.cur) (O : W.cur.Ok) (q a : Int) : Cl (d + 2) 240 [xR 138, xI q, xI a] g h Q = Q (some (xI (bz ((0 ≤ q ∧ q < W.cur.nq) ∧ 0 ≤ a ∧ a < W.cur.ch q)))) g h := by
  rw [E240, ga K.k0, S199 K M]
  by_cases hq : 0 ≤ q ∧ q < W.cur.nq
  · rw [bzt hq]
    simp only [E240, B240_5, B240_18, B240_25, B240_26, o1, o0, List.cons_append, List.nil_append, Int.reduceEq, if_false, K.k0, true_and, S204 K M O hq, g01, g11]
    by_cases h1 : a < 0
    · rw [if_pos h1, bzf (by omega)]
    · rw [if_neg h1]
      by_cases h2 : W.cur.ch q ≤ a
      · rw [if_pos h2, bzf (by omega)]
      · rw [if_neg h2, bzt (by omega)]
  · rw [bzf hq, bzf (fun z => hq z.1)]
    simp only [E240, B240_5, B240_18, B240_25, B240_26, o1, o0, List.cons_append, List.nil_append, if_true, g01]
theorem S205 (K : MK g h) {s w : Int} (hs : 0 ≤ s ∧ s < 16) (hw : 0 ≤ w ∧ w < 13) : Cl (d + 1) 205 [xR 138, xI s, xI w] g h Q = Q (some (xI (h 139 (250 + 13 * s + w)))) g h := by
  simp (disch := omega) only [E205, K.k0, K.pat, K.kat, K.lat, true_and, ga, w32_id]
theorem S161 (w : Int) (k : gK g 138 = 12) : Cl (d + 1) 161 [xR 138, xI w] g h Q = Q (some (xI (-1))) g (hset h 138 1 w) := by
  simp only [E161, k, true_and]
theorem S162 (w : Int) (k : gK g 138 = 12) : Cl (d + 1) 162 [xR 138, xI w] g h Q = Q (some (xI w)) g (hset h 138 1 0) := by
  simp only [E162, k, true_and]
theorem S160 (w : Int) (k : gK g 138 = 12) : Cl (d + 1) 160 [xR 138, xI w] g h Q = Q (some (xI (bz (w = 0)))) g (hset h 138 1 w) := by
  simp only [E160, B160_14, k, true_and, g01, g11]
  by_cases h1 : w = 0
  · rw [if_neg (by simp [h1]), bzt h1]
  · rw [if_pos h1, bzf h1]
end ASKS
/-! told -/
def Wd.toldv (W : Wd) (w : Int) : Int := if w = 0 then W.cur.nq else if w = 1 then W.cur.nd else if w = 2 then W.cur.ns else if w = 3 then W.cur.nr else if w = 4 then W.cur.wk else if w = 5 then W.cur.ca else if w = 6 then W.cur.cm else -1
def stin (p : Prop) [Decidable p] (w : Int) : Int := if p then 0 else w
theorem C101 {W : Wd} {w : Int} : Cans 101 [xR 0, xI w] 2 W (W.st (stin (0 ≤ w ∧ w ≤ 6) 1)) (xI (W.toldv w)) := by
  intro g h C d Q hQ
  have C0 := C
  obtain ⟨l, r, l2, r2, C1, C2, C3, C4, C5, C6, C7⟩ := C
  have hl : 0 ≤ l := by have := C7.l; omega
  have hw : w = 0 ∨ w = 1 ∨ w = 2 ∨ w = 3 ∨ w = 4 ∨ w = 5 ∨ w = 6 ∨ (w < 0 ∨ 6 < w) := by omega
  unfold Wd.toldv stin at hQ
  rcases hw with rfl | rfl | rfl | rfl | rfl | rfl | rfl | hw
  case inr.inr.inr.inr.inr.inr.inr =>
    rw [if_neg (by omega), if_neg (by omega), if_neg (by omega), if_neg (by omega), if_neg (by omega), if_neg (by omega), if_neg (by omega), if_neg (by omega)] at hQ
    simp (disch := omega) only [E101, B101_52, B101_60, B101_61, B101_69, B101_70, B101_81, B101_82, B101_96, B101_97, B101_105, B101_106, B101_114, B101_115, B101_123, B101_124, B101_129, C3.k0, C3.p4, C7.S.k0, C7.S.pl, C7.S.pr, C7.S.ns, C7.S.L.k0, C7.S.L.p2, C7.S.L.p3, C7.S.L.p4, C7.S.L.k2, C7.S.L.l2, C7.S.L.nq, C7.S.L.nd, C7.S.L.wk, C7.S.L.ca, C7.S.L.cm, C7.S.R.k0, C7.S.R.nr, C7.S.L.tl.k0, C7.S.L.tm.k0, true_and, o1, o0, List.cons_append, List.nil_append, ga, Sw_cons, Sw_nil, if_neg, S133 (k := C3.k0), S134 (k := C3.k0), S135 (k := C3.k0), S136 (k := C3.k0)]
    exact cst C0 hQ
  all_goals
    simp only [ite_not, bzF, bzT, if_true, if_false, ↓reduceIte, Int.reduceEq, Int.reduceLE, Int.reduceLT, Int.reduceNeg, ne_eq, not_true_eq_false, not_false_eq_true, and_self, and_true, true_and, and_false, false_and, eq_self] at hQ
    simp (disch := omega) only [E101, B101_52, B101_60, B101_61, B101_69, B101_70, B101_81, B101_82, B101_96, B101_97, B101_105, B101_106, B101_114, B101_115, B101_123, B101_124, B101_129, C3.k0, C3.p4, C7.S.k0, C7.S.pl, C7.S.pr, C7.S.ns, C7.S.L.k0, C7.S.L.p2, C7.S.L.p3, C7.S.L.p4, C7.S.L.k2, C7.S.L.l2, C7.S.L.nq, C7.S.L.nd, C7.S.L.wk, C7.S.L.ca, C7.S.L.cm, C7.S.R.k0, C7.S.R.nr, C7.S.L.tl.k0, C7.S.L.tm.k0, true_and, o1, o0, List.cons_append, List.nil_append, ga, Sw_cons, Sw_nil, ite_not, bzF, bzT, if_true, if_false, ↓reduceIte, Int.reduceEq, Int.reduceLE, Int.reduceLT, Int.reduceNeg, ne_eq, not_true_eq_false, not_false_eq_true, and_self, and_true, true_and, and_false, false_and, eq_self, S133 (k := C3.k0), S134 (k := C3.k0), S135 (k := C3.k0), S136 (k := C3.k0)]
    exact cst C0 hQ
theorem C206 {W : Wd} {w : Int} : Mans 206 [xR 138, xI w] 2 W (W.st (stin (0 ≤ w ∧ w ≤ 6) 1)) (xI (W.toldv w)) := by
  intro g h C O d Q hQ
  have hw : w = 0 ∨ w = 1 ∨ w = 2 ∨ w = 3 ∨ w = 4 ∨ w = 5 ∨ w = 6 ∨ (w < 0 ∨ 6 < w) := by omega
  have K := C.1
  have M := C.2.2.cur
  unfold Wd.toldv stin at hQ
  rcases hw with rfl | rfl | rfl | rfl | rfl | rfl | rfl | hw
  case inr.inr.inr.inr.inr.inr.inr =>
    rw [if_neg (by omega), if_neg (by omega), if_neg (by omega), if_neg (by omega), if_neg (by omega), if_neg (by omega), if_neg (by omega), if_neg (by omega)] at hQ
    have e : Cl (d + 2) 206 [xR 138, xI w] g h Q = Rn (d + 1) 206 10 [xR 138, xI w] [] g h Q := by
      rw [E206]
      rcases hw with hw | hw
      · rw [if_pos hw]
      · rw [if_neg (by omega), if_neg (by omega)]
    rw [e]
    simp (disch := omega) only [E206, B206_10, B206_15, B206_28, K.k0, true_and, o1, o0, List.cons_append, List.nil_append, S160 (k := K.k0), S161 (k := K.k0), S162 (k := K.k0)]
    exact mst C hQ
  all_goals
    simp only [ite_not, bzF, bzT, if_true, if_false, ↓reduceIte, Int.reduceEq, Int.reduceLE, Int.reduceLT, Int.reduceNeg, ne_eq, not_true_eq_false, not_false_eq_true, and_self, and_true, true_and, and_false, false_and, eq_self] at hQ
    simp (disch := omega) only [E206, B206_10, B206_15, B206_28, K.k0, K.pat, K.kat, K.lat, M.nq, M.nd, M.ns, M.nr, M.wk, M.ca, M.cm, o1, o0, List.cons_append, List.nil_append, ga, ite_not, bzF, bzT, if_true, if_false, ↓reduceIte, Int.reduceEq, Int.reduceLE, Int.reduceLT, Int.reduceNeg, ne_eq, not_true_eq_false, not_false_eq_true, and_self, and_true, true_and, and_false, false_and, eq_self, S160 (k := K.k0), S161 (k := K.k0), S162 (k := K.k0)]
    exact mst C hQ
