/-! weight, look -/
theorem St.Ok.rows {A : St} (O : A.Ok) {m q : Int} (hm : bit1 m) (hq : inq A q) : 1 ≤ A.rows m q ∧ A.rows m q ≤ 4 := by
  unfold St.rows
  rcases O.gb m q hm hq with h | ⟨h1, h2⟩
  · rw [if_pos h]; decide
  · rw [if_neg (by omega)]
    have := O.ch (A.gb m q) ⟨h1, by have := hq.2; omega⟩
    omega
theorem S20 {g : KG} {h : KH} {l t : Int} {A : St} {m : Int} (L : LR g h l A) (T : TR g h t A m) (O : A.Ok) {q : Int} (hm : bit1 m) (hq : inq A q) {d : Nat} {Q : Option KV → KG → KH → Prop} (hQ : Q (some (xI (A.rows m q))) g h) : Cl (d + 1) 20 [xR l, xR t, xI q] g h Q := by
  have hn := O.nq
  have h0 := hq.1
  have h1 := hq.2
  have hb := T.b q hq
  unfold St.rows at hQ
  simp (disch := omega) only [E20, B20_22, T.k0, T.p0, T.k1, T.l1, hb, true_and, ga, ite_not, bzF, bzT, if_true, if_false, ↓reduceIte, Int.reduceEq, Int.reduceLE, Int.reduceLT, Int.reduceNeg, ne_eq, not_true_eq_false, not_false_eq_true, and_self, and_true, true_and, and_false, false_and, eq_self]
  rcases O.gb m q hm hq with h | ⟨h2, h3⟩
  · rw [if_pos h] at hQ ⊢
    exact hQ
  · rw [if_neg (by omega)] at hQ ⊢
    have hc := L.ch (A.gb m q) ⟨h2, by omega⟩
    simp (disch := omega) only [L.k0, L.p2, L.k2, L.l2, hc, true_and, ga]
    exact hQ
def mm (m : Int) : Int := if m = 0 then 0 else 1
theorem mm_b (m : Int) : bit1 (mm m) := by unfold mm; split; exact Or.inl rfl; exact Or.inr rfl
def Wd.wgt (W : Wd) (q m r a : Int) : Int × Int := if ((0 ≤ q ∧ q < W.cur.nq) ∧ 0 ≤ a ∧ a < W.cur.ch q) ∧ 0 ≤ r ∧ r < W.cur.rows (mm m) q then (0, W.cur.wt (mm m) q r a) else (1, -1)
theorem C103 {W : Wd} {q m r a : Int} : Ci 103 [xR 0, xI q, xI m, xI r, xI a] 4 W (W.wgt q m r a) := by
  intro g h C d Q hQ
  have C0 := C
  obtain ⟨l, r1, l2, r2, C1, C2, C3, C4, C5, C6, C7⟩ := C
  have hn := C7.O.nq
  have hl : 0 ≤ l := by have := C7.l; omega
  rw [E103, ga C3.k0, S141 C3 C7]
  by_cases hq : (0 ≤ q ∧ q < W.cur.nq) ∧ 0 ≤ a ∧ a < W.cur.ch q
  · rw [bzt hq]
    have hr4 := C7.O.rows (mm_b m) hq.1
    have hch := C7.O.ch q hq.1
    have fin : ∀ t, 0 ≤ t → TR g h t W.cur (mm m) → Rn (d + 3) 103 43 [xR 0, xI q, xI m, xI r, xI a, xU] [xR t] g h Q := by
      intro t ht T
      simp (disch := omega) only [B103_43, C3.k0, C3.p4, C7.S.k0, C7.S.pl, C7.S.pr, C7.S.ns, C7.S.L.k0, C7.S.L.p2, C7.S.L.p3, C7.S.L.p4, C7.S.L.k2, C7.S.L.l2, C7.S.L.nq, C7.S.L.nd, C7.S.L.wk, C7.S.L.ca, C7.S.L.cm, C7.S.R.k0, C7.S.R.nr, C7.S.L.tl.k0, C7.S.L.tm.k0, true_and, ga]
      refine S20 C7.S.L T C7.O (mm_b m) hq.1 ?_
      simp (disch := omega) only [o1, o0, List.cons_append, List.nil_append, B103_61, S146, w32_id]
      by_cases hr : 0 ≤ r ∧ r < W.cur.rows (mm m) q
      · have e : W.wgt q m r a = (0, W.cur.wt (mm m) q r a) := by unfold Wd.wgt; rw [if_pos ⟨hq, hr⟩]
        rw [e] at hQ
        rw [bzt (show 0 ≤ r ∧ r ≤ W.cur.rows (mm m) q - 1 by omega)]
        have w := T.w q r a hq.1 hr.1 hr.2 hq.2.1 hq.2.2
        simp (disch := omega) only [E103, B103_7, B103_15, B103_43, B103_61, B103_67, B103_75, B103_89, B103_93, o1, o0, List.cons_append, List.nil_append, ite_not, bzF, bzT, if_true, if_false, ↓reduceIte, Int.reduceEq, Int.reduceLE, Int.reduceLT, Int.reduceNeg, ne_eq, not_true_eq_false, not_false_eq_true, and_self, and_true, true_and, and_false, false_and, eq_self, T.k0, T.p2, T.k3, T.l3, S154, ga, C3.k0, w, S133 (k := C3.k0), S134 (k := C3.k0), S135 (k := C3.k0), S136 (k := C3.k0)]
        exact cst C0 hQ
      · have e : W.wgt q m r a = (1, -1) := by unfold Wd.wgt; rw [if_neg (fun z => hr z.2)]
        rw [e] at hQ
        rw [bzf (show ¬ (0 ≤ r ∧ r ≤ W.cur.rows (mm m) q - 1) by omega)]
        simp (disch := omega) only [E103, B103_7, B103_15, B103_43, B103_61, B103_67, B103_75, B103_89, B103_93, o1, o0, List.cons_append, List.nil_append, ite_not, bzF, bzT, if_true, if_false, ↓reduceIte, Int.reduceEq, Int.reduceLE, Int.reduceLT, Int.reduceNeg, ne_eq, not_true_eq_false, not_false_eq_true, and_self, and_true, true_and, and_false, false_and, eq_self, C3.k0, S133 (k := C3.k0), S134 (k := C3.k0), S135 (k := C3.k0), S136 (k := C3.k0)]
        exact cst C0 hQ
    simp only [B103_7, o1, o0, List.cons_append, List.nil_append, ite_not, bzF, bzT, if_true, if_false, ↓reduceIte, Int.reduceEq, Int.reduceLE, Int.reduceLT, Int.reduceNeg, ne_eq, not_true_eq_false, not_false_eq_true, and_self, and_true, true_and, and_false, false_and, eq_self, C3.k0, C3.p4, C7.S.k0, C7.S.pl, C7.S.pr, C7.S.ns, C7.S.L.k0, C7.S.L.p2, C7.S.L.p3, C7.S.L.p4, C7.S.L.k2, C7.S.L.l2, C7.S.L.nq, C7.S.L.nd, C7.S.L.wk, C7.S.L.ca, C7.S.L.cm, C7.S.R.k0, C7.S.R.nr, C7.S.L.tl.k0, C7.S.L.tm.k0, true_and]
    by_cases hm : m = 0
    · rw [if_pos hm]
      exact fin (l + 3) (by omega) (by unfold mm; rw [if_pos hm]; exact C7.S.L.tl)
    · rw [if_neg hm]
      exact fin (l + 7) (by omega) (by unfold mm; rw [if_neg hm]; exact C7.S.L.tm)
  · have e : W.wgt q m r a = (1, -1) := by unfold Wd.wgt; rw [if_neg (fun z => hq z.1)]
    rw [e] at hQ
    rw [bzf hq]
    simp only [E103, B103_7, B103_15, B103_43, B103_61, B103_67, B103_75, B103_89, B103_93, o1, o0, List.cons_append, List.nil_append, ite_not, bzF, bzT, if_true, if_false, ↓reduceIte, Int.reduceEq, Int.reduceLE, Int.reduceLT, Int.reduceNeg, ne_eq, not_true_eq_false, not_false_eq_true, and_self, and_true, true_and, and_false, false_and, eq_self, C3.k0, C3.p4, C7.S.k0, C7.S.pl, C7.S.pr, C7.S.ns, C7.S.L.k0, C7.S.L.p2, C7.S.L.p3, C7.S.L.p4, C7.S.L.k2, C7.S.L.l2, C7.S.L.nq, C7.S.L.nd, C7.S.L.wk, C7.S.L.ca, C7.S.L.cm, C7.S.R.k0, C7.S.R.nr, C7.S.L.tl.k0, C7.S.L.tm.k0, true_and, S133 (k := C3.k0), S134 (k := C3.k0), S135 (k := C3.k0), S136 (k := C3.k0)]
    exact cst C0 hQ
theorem C208 {W : Wd} {q m r a : Int} : Mi 208 [xR 138, xI q, xI m, xI r, xI a] 4 W (W.wgt q m r a) := by
  intro g h C O d Q hQ
  have K := C.1
  have M := C.2.2.cur
  have hn := O.nq
  rw [E208, ga K.k0, S199 K M]
  have no : ¬ (((0 ≤ q ∧ q < W.cur.nq) ∧ 0 ≤ a ∧ a < W.cur.ch q) ∧ 0 ≤ r ∧ r < W.cur.rows (mm m) q) → W.wgt q m r a = (1, -1) := fun z => by unfold Wd.wgt; rw [if_neg z]
  have r23 : W.wgt q m r a = (1, -1) → Rn (d + 3) 208 23 [xR 138, xI q, xI m, xI r, xI a, xU] [] g h Q := by
    intro e
    rw [e] at hQ
    simp only [E208, B208_5, B208_20, B208_23, B208_28, B208_48, B208_73, B208_76, B208_81, B208_98, B208_102, B208_109, o1, o0, List.cons_append, List.nil_append, K.k0, true_and, S160 (k := K.k0), S161 (k := K.k0), S162 (k := K.k0)]
    exact mst C hQ
  by_cases hq : 0 ≤ q ∧ q < W.cur.nq
  · rw [bzt hq]
    have hch := O.ch q hq
    have hr4 := O.rows (mm_b m) hq
    simp only [B208_5, o1, o0, List.cons_append, List.nil_append, ite_not, bzF, bzT, if_true, if_false, ↓reduceIte, Int.reduceEq, Int.reduceLE, Int.reduceLT, Int.reduceNeg, ne_eq, not_true_eq_false, not_false_eq_true, and_self, and_true, true_and, and_false, false_and, eq_self, K.k0]
    by_cases ha : a < 0
    · rw [if_pos ha]
      exact r23 (no (fun z => by omega))
    · rw [if_neg ha]
      rw [S204 K M O hq]
      simp only [B208_20, o1, o0, List.cons_append, List.nil_append, K.k0, K.pat, true_and]
      by_cases ha2 : a < W.cur.ch q
      · rw [if_pos ha2]
        have r76 : ∀ x, W.wgt q m r a = (1, -1) → Rn (d + 3) 208 76 [xR 138, xI q, xI m, xI r, xI a, xI x] [] g h Q := by
          intro x e
          rw [e] at hQ
          simp only [E208, B208_5, B208_20, B208_23, B208_28, B208_48, B208_73, B208_76, B208_81, B208_98, B208_102, B208_109, o1, o0, List.cons_append, List.nil_append, K.k0, true_and, S160 (k := K.k0), S161 (k := K.k0), S162 (k := K.k0)]
          exact mst C hQ
        have hgb := O.gb (mm m) q (mm_b m) hq
        have hb := M.gb (mm m) q (mm_b m) hq
        have fin : ∀ b, b = W.cur.gb (mm m) q → ∀ n, n = W.cur.rows (mm m) q → ¬ r < 0 → Rn (d + 3) 208 73 [xR 138, xI q, xI m, xI r, xI a, xI b] [xI n, xI r] g h Q := by
          intro b _ n hnr hr0
          rw [B208_73, ga K.k0]
          by_cases hr : r < n
          · rw [if_pos hr]
            · have e : W.wgt q m r a = (0, W.cur.wt (mm m) q r a) := by unfold Wd.wgt; rw [if_pos ⟨⟨hq, by omega⟩, by omega⟩]
              rw [e] at hQ
              have w := M.wt (mm m) q r a (mm_b m) hq (by omega) (by omega) (by omega) (by omega)
              by_cases hm : m = 0
              · have hmm : mm m = 0 := by unfold mm; rw [if_pos hm]
                rw [hmm] at w hQ
                rw [if_pos hm, K.pat]
                simp (disch := omega) only [E208, B208_5, B208_20, B208_23, B208_28, B208_48, B208_73, B208_76, B208_81, B208_98, B208_102, B208_109, E187, o1, o0, List.cons_append, List.nil_append, w32_id, w, K.kat, K.lat, K.k0, ga, true_and, S160 (k := K.k0), S161 (k := K.k0), S162 (k := K.k0)]
                exact mst C hQ
              · have hmm : mm m = 1 := by unfold mm; rw [if_neg hm]
                rw [hmm] at w hQ
                rw [if_neg hm, K.pat]
                simp (disch := omega) only [E208, B208_5, B208_20, B208_23, B208_28, B208_48, B208_73, B208_76, B208_81, B208_98, B208_102, B208_109, E187, o1, o0, List.cons_append, List.nil_append, w32_id, w, K.kat, K.lat, K.k0, ga, true_and, S160 (k := K.k0), S161 (k := K.k0), S162 (k := K.k0)]
                exact mst C hQ
          · rw [if_neg hr]
            exact r76 b (no (fun z => by omega))
        have mid : ∀ s0, 8 + 3 * q + s0 = 8 + 3 * q + 1 + mm m → Rn (d + 3) 208 48 [xR 138, xI q, xI m, xI r, xI a, xU] [xI s0, xI (w32 (8 + w32 (3 * q))), xR 139] g h Q := by
          intro s0 hs
          have hm1 := bit1_le (mm_b m)
          rw [← hs] at hb
          simp (disch := omega) only [B208_48, w32_id, K.kat, K.lat, true_and, ga, hb, ite_not, bzF, bzT, if_true, if_false, ↓reduceIte, Int.reduceEq, Int.reduceLE, Int.reduceLT, Int.reduceNeg, ne_eq, not_true_eq_false, not_false_eq_true, and_self, and_true, true_and, and_false, false_and, eq_self]
          by_cases hr0 : r < 0
          · rw [if_pos hr0]
            exact r76 _ (no (fun z => by omega))
          · rw [if_neg hr0]
            by_cases h1 : W.cur.gb (mm m) q = -1
            · rw [if_pos h1]
              exact fin _ rfl 1 (by unfold St.rows; rw [if_pos h1]) hr0
            · rw [if_neg h1, ga K.k0, S204 K M O ⟨by omega, by omega⟩]
              exact fin _ rfl _ (by unfold St.rows; rw [if_neg h1]) hr0
        by_cases hm : m = 0
        · rw [if_pos hm]
          exact mid 1 (by unfold mm; rw [if_pos hm]; omega)
        · rw [if_neg hm]
          exact mid 2 (by unfold mm; rw [if_neg hm]; omega)
      · rw [if_neg ha2]
        exact r23 (no (fun z => by omega))
  · rw [bzf hq]
    simp only [B208_5, o1, o0, List.cons_append, List.nil_append, ite_not, bzF, bzT, if_true, if_false, ↓reduceIte, Int.reduceEq, Int.reduceLE, Int.reduceLT, Int.reduceNeg, ne_eq, not_true_eq_false, not_false_eq_true, and_self, and_true, true_and, and_false, false_and, eq_self]
    exact r23 (no (fun z => hq z.1.1))
def Wd.look (W : Wd) (s w : Int) : Int × Int := if (0 ≤ s ∧ s < W.cur.ns) ∧ 0 ≤ w ∧ w ≤ 6 + W.cur.nq then (if w = 0 then (0, W.cur.ask s) else if w = 1 then (0, W.cur.dr s) else if w = 2 then (0, W.cur.fr s) else if w = 3 then (0, W.cur.tt s) else if w = 4 then (0, W.cur.cd s) else if w = 5 then (0, W.cur.tr s) else if w = 6 then (if W.cur.tr s = 3 then (0, W.cur.hf s) else (6, -1)) else (0, dg (W.cur.pa s) (w - 7))) else (1, -1)
theorem C105 {W : Wd} {s w : Int} : Ci 105 [xR 0, xI s, xI w] 3 W (W.look s w) := by
  intro g h C d Q hQ
  have C0 := C
  obtain ⟨l, r, l2, r2, C1, C2, C3, C4, C5, C6, C7⟩ := C
  have hn := C7.O.nq
  have hs16 := C7.O.ns
  rw [E105, ga C3.k0, S143 C3 C7]
  by_cases hs : 0 ≤ s ∧ s < W.cur.ns
  · rw [bzt hs]
    simp (disch := omega) only [B105_5, o1, o0, List.cons_append, List.nil_append, ite_not, bzF, bzT, if_true, if_false, ↓reduceIte, Int.reduceEq, Int.reduceLE, Int.reduceLT, Int.reduceNeg, ne_eq, not_true_eq_false, not_false_eq_true, and_self, and_true, true_and, and_false, false_and, eq_self, C3.k0, C3.p4, C7.S.k0, C7.S.pl, C7.S.pr, C7.S.ns, C7.S.L.k0, C7.S.L.p2, C7.S.L.p3, C7.S.L.p4, C7.S.L.k2, C7.S.L.l2, C7.S.L.nq, C7.S.L.nd, C7.S.L.wk, C7.S.L.ca, C7.S.L.cm, C7.S.R.k0, C7.S.R.nr, C7.S.L.tl.k0, C7.S.L.tm.k0, true_and, S146, w32_id]
    by_cases hw : 0 ≤ w ∧ w ≤ 6 + W.cur.nq
    · rw [bzt hw]
      unfold Wd.look at hQ
      rw [if_pos ⟨hs, hw⟩] at hQ
      have hw7 : w = 0 ∨ w = 1 ∨ w = 2 ∨ w = 3 ∨ w = 4 ∨ w = 5 ∨ w = 6 ∨ 7 ≤ w := by omega
      rcases hw7 with rfl | rfl | rfl | rfl | rfl | rfl | rfl | h7
      case inr.inr.inr.inr.inr.inr.inl =>
        by_cases h3 : W.cur.tr s = 3
        · simp only [h3, ite_not, bzF, bzT, if_true, if_false, ↓reduceIte, Int.reduceEq, Int.reduceLE, Int.reduceLT, Int.reduceNeg, ne_eq, not_true_eq_false, not_false_eq_true, and_self, and_true, true_and, and_false, false_and, eq_self] at hQ
          simp (disch := omega) only [E105, B105_5, B105_28, B105_31, B105_36, B105_80, B105_93, B105_94, B105_107, B105_108, B105_121, B105_122, B105_135, B105_136, B105_149, B105_150, B105_163, B105_164, B105_190, B105_199, B105_200, B105_217, B105_220, C3.k0, C3.p4, C7.S.k0, C7.S.pl, C7.S.pr, C7.S.ns, C7.S.L.k0, C7.S.L.p2, C7.S.L.p3, C7.S.L.p4, C7.S.L.k2, C7.S.L.l2, C7.S.L.nq, C7.S.L.nd, C7.S.L.wk, C7.S.L.ca, C7.S.L.cm, C7.S.R.k0, C7.S.R.nr, C7.S.L.tl.k0, C7.S.L.tm.k0, true_and, o1, o0, List.cons_append, List.nil_append, ga, Sw_cons, Sw_nil, ite_not, bzF, bzT, if_true, if_false, ↓reduceIte, Int.reduceEq, Int.reduceLE, Int.reduceLT, Int.reduceNeg, ne_eq, not_true_eq_false, not_false_eq_true, and_self, and_true, true_and, and_false, false_and, eq_self, C7.S.n9, C7.S.n10, C7.S.m29, C7.S.w29, C7.S.m30, C7.S.w30, C7.S.v29 s hs, C7.S.v30 s hs h3, h3, S133 (k := C3.k0), S134 (k := C3.k0), S135 (k := C3.k0), S136 (k := C3.k0)]
          exact cst C0 hQ
        · simp only [h3, ite_not, bzF, bzT, if_true, if_false, ↓reduceIte, Int.reduceEq, Int.reduceLE, Int.reduceLT, Int.reduceNeg, ne_eq, not_true_eq_false, not_false_eq_true, and_self, and_true, true_and, and_false, false_and, eq_self] at hQ
          simp (disch := omega) only [E105, B105_5, B105_28, B105_31, B105_36, B105_80, B105_93, B105_94, B105_107, B105_108, B105_121, B105_122, B105_135, B105_136, B105_149, B105_150, B105_163, B105_164, B105_190, B105_199, B105_200, B105_217, B105_220, C3.k0, C3.p4, C7.S.k0, C7.S.pl, C7.S.pr, C7.S.ns, C7.S.L.k0, C7.S.L.p2, C7.S.L.p3, C7.S.L.p4, C7.S.L.k2, C7.S.L.l2, C7.S.L.nq, C7.S.L.nd, C7.S.L.wk, C7.S.L.ca, C7.S.L.cm, C7.S.R.k0, C7.S.R.nr, C7.S.L.tl.k0, C7.S.L.tm.k0, true_and, o1, o0, List.cons_append, List.nil_append, ga, Sw_cons, Sw_nil, ite_not, bzF, bzT, if_true, if_false, ↓reduceIte, Int.reduceEq, Int.reduceLE, Int.reduceLT, Int.reduceNeg, ne_eq, not_true_eq_false, not_false_eq_true, and_self, and_true, true_and, and_false, false_and, eq_self, C7.S.n9, C7.S.n10, C7.S.m29, C7.S.w29, C7.S.v29 s hs, h3, S133 (k := C3.k0), S134 (k := C3.k0), S135 (k := C3.k0), S136 (k := C3.k0)]
          exact cst C0 hQ
      case inr.inr.inr.inr.inr.inr.inr =>
        rw [if_neg (by omega), if_neg (by omega), if_neg (by omega), if_neg (by omega), if_neg (by omega), if_neg (by omega), if_neg (by omega)] at hQ
        simp (disch := omega) only [E105, B105_5, B105_28, B105_31, B105_36, B105_80, B105_93, B105_94, B105_107, B105_108, B105_121, B105_122, B105_135, B105_136, B105_149, B105_150, B105_163, B105_164, B105_190, B105_199, B105_200, B105_217, B105_220, C3.k0, C3.p4, C7.S.k0, C7.S.pl, C7.S.pr, C7.S.ns, C7.S.L.k0, C7.S.L.p2, C7.S.L.p3, C7.S.L.p4, C7.S.L.k2, C7.S.L.l2, C7.S.L.nq, C7.S.L.nd, C7.S.L.wk, C7.S.L.ca, C7.S.L.cm, C7.S.R.k0, C7.S.R.nr, C7.S.L.tl.k0, C7.S.L.tm.k0, true_and, o1, o0, List.cons_append, List.nil_append, ga, Sw_cons, Sw_nil, if_neg, ite_not, bzF, bzT, if_true, if_false, ↓reduceIte, Int.reduceEq, Int.reduceLE, Int.reduceLT, Int.reduceNeg, ne_eq, not_true_eq_false, not_false_eq_true, and_self, and_true, true_and, and_false, false_and, eq_self, C7.S.n7, C7.S.m27, C7.S.w27, C7.S.v27 s hs, w32_id, S151, S133 (k := C3.k0), S134 (k := C3.k0), S135 (k := C3.k0), S136 (k := C3.k0)]
        exact cst C0 hQ
      all_goals
        simp only [ite_not, bzF, bzT, if_true, if_false, ↓reduceIte, Int.reduceEq, Int.reduceLE, Int.reduceLT, Int.reduceNeg, ne_eq, not_true_eq_false, not_false_eq_true, and_self, and_true, true_and, and_false, false_and, eq_self] at hQ
        simp (disch := omega) only [E105, B105_5, B105_28, B105_31, B105_36, B105_80, B105_93, B105_94, B105_107, B105_108, B105_121, B105_122, B105_135, B105_136, B105_149, B105_150, B105_163, B105_164, B105_190, B105_199, B105_200, B105_217, B105_220, C3.k0, C3.p4, C7.S.k0, C7.S.pl, C7.S.pr, C7.S.ns, C7.S.L.k0, C7.S.L.p2, C7.S.L.p3, C7.S.L.p4, C7.S.L.k2, C7.S.L.l2, C7.S.L.nq, C7.S.L.nd, C7.S.L.wk, C7.S.L.ca, C7.S.L.cm, C7.S.R.k0, C7.S.R.nr, C7.S.L.tl.k0, C7.S.L.tm.k0, true_and, o1, o0, List.cons_append, List.nil_append, ga, Sw_cons, Sw_nil, ite_not, bzF, bzT, if_true, if_false, ↓reduceIte, Int.reduceEq, Int.reduceLE, Int.reduceLT, Int.reduceNeg, ne_eq, not_true_eq_false, not_false_eq_true, and_self, and_true, true_and, and_false, false_and, eq_self, C7.S.n3, C7.S.n4, C7.S.n5, C7.S.n6, C7.S.n8, C7.S.n9, C7.S.m23, C7.S.w23, C7.S.m24, C7.S.w24, C7.S.m25, C7.S.w25, C7.S.m26, C7.S.w26, C7.S.m28, C7.S.w28, C7.S.m29, C7.S.w29, C7.S.v23 s hs, C7.S.v24 s hs, C7.S.v25 s hs, C7.S.v26 s hs, C7.S.v28 s hs, C7.S.v29 s hs, S133 (k := C3.k0), S134 (k := C3.k0), S135 (k := C3.k0), S136 (k := C3.k0)]
        exact cst C0 hQ
    · unfold Wd.look at hQ
      rw [if_neg (fun z => hw z.2)] at hQ
      rw [bzf hw]
      simp only [E105, B105_5, B105_28, B105_31, B105_36, B105_80, B105_93, B105_94, B105_107, B105_108, B105_121, B105_122, B105_135, B105_136, B105_149, B105_150, B105_163, B105_164, B105_190, B105_199, B105_200, B105_217, B105_220, o1, o0, List.cons_append, List.nil_append, ite_not, bzF, bzT, if_true, if_false, ↓reduceIte, Int.reduceEq, Int.reduceLE, Int.reduceLT, Int.reduceNeg, ne_eq, not_true_eq_false, not_false_eq_true, and_self, and_true, true_and, and_false, false_and, eq_self, C3.k0, C3.p4, C7.S.k0, C7.S.pl, C7.S.pr, C7.S.ns, C7.S.L.k0, C7.S.L.p2, C7.S.L.p3, C7.S.L.p4, C7.S.L.k2, C7.S.L.l2, C7.S.L.nq, C7.S.L.nd, C7.S.L.wk, C7.S.L.ca, C7.S.L.cm, C7.S.R.k0, C7.S.R.nr, C7.S.L.tl.k0, C7.S.L.tm.k0, true_and, S133 (k := C3.k0), S134 (k := C3.k0), S135 (k := C3.k0), S136 (k := C3.k0)]
      exact cst C0 hQ
  · unfold Wd.look at hQ
    rw [if_neg (fun z => hs z.1)] at hQ
    rw [bzf hs]
    simp only [E105, B105_5, B105_28, B105_31, B105_36, B105_80, B105_93, B105_94, B105_107, B105_108, B105_121, B105_122, B105_135, B105_136, B105_149, B105_150, B105_163, B105_164, B105_190, B105_199, B105_200, B105_217, B105_220, o1, o0, List.cons_append, List.nil_append, ite_not, bzF, bzT, if_true, if_false, ↓reduceIte, Int.reduceEq, Int.reduceLE, Int.reduceLT, Int.reduceNeg, ne_eq, not_true_eq_false, not_false_eq_true, and_self, and_true, true_and, and_false, false_and, eq_self, C3.k0, C3.p4, C7.S.k0, C7.S.pl, C7.S.pr, C7.S.ns, C7.S.L.k0, C7.S.L.p2, C7.S.L.p3, C7.S.L.p4, C7.S.L.k2, C7.S.L.l2, C7.S.L.nq, C7.S.L.nd, C7.S.L.wk, C7.S.L.ca, C7.S.L.cm, C7.S.R.k0, C7.S.R.nr, C7.S.L.tl.k0, C7.S.L.tm.k0, true_and, S133 (k := C3.k0), S134 (k := C3.k0), S135 (k := C3.k0), S136 (k := C3.k0)]
    exact cst C0 hQ
theorem C210 {W : Wd} {s w : Int} : Mi 210 [xR 138, xI s, xI w] 3 W (W.look s w) := by
  intro g h C O d Q hQ
  have K := C.1
  have M := C.2.2.cur
  have hn := O.nq
  have hs16 := O.ns
  rw [E210, ga K.k0, S200 K M]
  have r25 : W.look s w = (1, -1) → Rn (d + 2) 210 25 [xR 138, xI s, xI w] [] g h Q := by
    intro e
    rw [e] at hQ
    simp only [E210, B210_5, B210_25, B210_30, B210_43, B210_53, B210_54, B210_61, B210_64, o1, o0, List.cons_append, List.nil_append, K.k0, true_and, S160 (k := K.k0), S161 (k := K.k0), S162 (k := K.k0)]
    exact mst C hQ
  by_cases hs : 0 ≤ s ∧ s < W.cur.ns
  · rw [bzt hs]
    simp (disch := omega) only [B210_5, o1, o0, List.cons_append, List.nil_append, ite_not, bzF, bzT, if_true, if_false, ↓reduceIte, Int.reduceEq, Int.reduceLE, Int.reduceLT, Int.reduceNeg, ne_eq, not_true_eq_false, not_false_eq_true, and_self, and_true, true_and, and_false, false_and, eq_self, K.k0, K.pat, K.kat, K.lat, M.nq, w32_id]
    by_cases hw : 0 ≤ w ∧ w ≤ 6 + W.cur.nq
    · rw [if_neg (by omega), if_pos (by omega)]
      unfold Wd.look at hQ
      rw [if_pos ⟨hs, hw⟩] at hQ
      have fin : ∀ v, h 139 (250 + 13 * s + w) = v → (∀ h2 : KH, MR g h2 (W.st 0) → (∀ a, a < 138 → h2 a = h a) → Q (some (xI v)) g h2) → Rn (d + 2) 210 54 [xR 138, xI s, xI w] [] g h Q := by
        intro v hv hQ
        rw [B210_54, ga K.k0, S205 K ⟨by omega, by omega⟩ ⟨by omega, by omega⟩, hv]
        simp only [E210, B210_5, B210_25, B210_30, B210_43, B210_53, B210_54, B210_61, B210_64, o1, o0, List.cons_append, List.nil_append, K.k0, true_and, S160 (k := K.k0), S161 (k := K.k0), S162 (k := K.k0)]
        exact mst C hQ
      by_cases h6 : w = 6
      · subst h6
        rw [if_pos rfl, S205 K ⟨by omega, by omega⟩ (by decide), M.tr s hs]
        simp only [o1, o0, List.cons_append, List.nil_append, B210_43]
        by_cases h3 : W.cur.tr s = 3
        · simp only [h3, ite_not, bzF, bzT, if_true, if_false, ↓reduceIte, Int.reduceEq, Int.reduceLE, Int.reduceLT, Int.reduceNeg, ne_eq, not_true_eq_false, not_false_eq_true, and_self, and_true, true_and, and_false, false_and, eq_self] at hQ
          rw [if_pos h3]
          exact fin _ (M.hf s hs h3) hQ
        · simp only [h3, ite_not, bzF, bzT, if_true, if_false, ↓reduceIte, Int.reduceEq, Int.reduceLE, Int.reduceLT, Int.reduceNeg, ne_eq, not_true_eq_false, not_false_eq_true, and_self, and_true, true_and, and_false, false_and, eq_self] at hQ
          rw [if_neg h3]
          simp only [E210, B210_5, B210_25, B210_30, B210_43, B210_53, B210_54, B210_61, B210_64, o1, o0, List.cons_append, List.nil_append, K.k0, true_and, S160 (k := K.k0), S161 (k := K.k0), S162 (k := K.k0)]
          exact mst C hQ
      · rw [if_neg h6]
        have hw7 : w = 0 ∨ w = 1 ∨ w = 2 ∨ w = 3 ∨ w = 4 ∨ w = 5 ∨ 7 ≤ w := by omega
        rcases hw7 with rfl | rfl | rfl | rfl | rfl | rfl | h7
        · exact fin _ (M.ask s hs) (by simpa using hQ)
        · exact fin _ (M.dr s hs) (by simpa using hQ)
        · exact fin _ (M.fr s hs) (by simpa using hQ)
        · exact fin _ (M.tt s hs) (by simpa using hQ)
        · exact fin _ (M.cd s hs) (by simpa using hQ)
        · exact fin _ (M.tr s hs) (by simpa using hQ)
        · rw [if_neg (by omega), if_neg (by omega), if_neg (by omega), if_neg (by omega), if_neg (by omega), if_neg (by omega), if_neg (by omega)] at hQ
          refine fin _ ?_ hQ
          rw [← M.pa s (w - 7) hs ⟨by omega, by omega⟩]
          congr 1
          omega
    · by_cases h0 : w < 0
      · rw [if_pos h0]
        exact r25 (by unfold Wd.look; rw [if_neg (fun z => hw z.2)])
      · rw [if_neg h0, if_neg (by omega)]
        exact r25 (by unfold Wd.look; rw [if_neg (fun z => hw z.2)])
  · rw [bzf hs]
    simp only [B210_5, o1, o0, List.cons_append, List.nil_append, ite_not, bzF, bzT, if_true, if_false, ↓reduceIte, Int.reduceEq, Int.reduceLE, Int.reduceLT, Int.reduceNeg, ne_eq, not_true_eq_false, not_false_eq_true, and_self, and_true, true_and, and_false, false_and, eq_self]
    exact r25 (by unfold Wd.look; rw [if_neg (fun z => hs z.1)])
