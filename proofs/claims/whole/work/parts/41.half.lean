/-! half -/
def St.hsum (A : St) (p : Int) : Nat → Int
  | 0 => 0
  | n + 1 => A.hsum p n + A.prod n p
theorem St.Ok.hsum {A : St} (O : A.Ok) {p : Int} (hp : A.row p) : ∀ n : Nat, 0 ≤ A.hsum p n ∧ A.hsum p n ≤ 16777216 * n := by
  intro n
  induction n with
  | zero => exact ⟨Int.le_refl _, by show (0 : Int) ≤ 16777216 * (0 : Nat); omega⟩
  | succ n ih =>
    have := O.prod hp n
    unfold St.hsum
    omega
def Wd.half (W : Wd) (s f : Int) : Wd × Int := if (0 ≤ s ∧ s < W.cur.ns) ∧ 0 ≤ f ∧ f ≤ W.cur.nq then (if W.cur.hsum (W.cur.pa s) (W.cur.nq.toNat + 1) = 0 then (W.st 6, 0) else W.frac (W.cur.prod f (W.cur.pa s)) (W.cur.hsum (W.cur.pa s) (W.cur.nq.toNat + 1))) else (W.st 1, 0)
theorem C110 {W : Wd} {s f : Int} : Cw 110 [xR 0, xI s, xI f] 5 W (W.half s f) := by
  intro g h C d Q hQ
  have C0 := C
  obtain ⟨l, r, l2, r2, C1, C2, C3, C4, C5, C6, C7⟩ := C
  have hn := C7.O.nq
  have hn2 := C7.O.ns
  rw [E110, ga C3.k0, S143 C3 C7]
  by_cases hs : 0 ≤ s ∧ s < W.cur.ns
  · rw [bzt hs]
    simp only [B110_5, o1, o0, List.cons_append, List.nil_append, ite_not, bzF, bzT, if_true, if_false, ↓reduceIte, Int.reduceEq, Int.reduceLE, Int.reduceLT, Int.reduceNeg, ne_eq, not_true_eq_false, not_false_eq_true, and_self, and_true, true_and, and_false, false_and, eq_self, C3.k0, C3.p4, C7.S.k0, C7.S.pl, C7.S.pr, C7.S.ns, C7.S.L.k0, C7.S.L.p2, C7.S.L.p3, C7.S.L.p4, C7.S.L.k2, C7.S.L.l2, C7.S.L.nq, C7.S.L.nd, C7.S.L.wk, C7.S.L.ca, C7.S.L.cm, C7.S.R.k0, C7.S.R.nr, C7.S.L.tl.k0, C7.S.L.tm.k0, true_and, S146]
    by_cases hf : 0 ≤ f ∧ f ≤ W.cur.nq
    · rw [bzt hf]
      have hp := C7.O.pa s hs
      unfold Wd.half at hQ
      rw [if_pos ⟨hs, hf⟩] at hQ
      have lp : ∀ n k : Nat, k + n = W.cur.nq.toNat + 1 → Rn (d + 4) 110 39 [xR 0, xI s, xI f, xL (W.cur.hsum (W.cur.pa s) k), xU, xI (k : Int)] [] g h Q := by
        intro n
        induction n with
        | zero =>
          intro k hk
          have hk : k = W.cur.nq.toNat + 1 := by omega
          have b := C7.O.hsum hp k
          have bp := C7.O.prod hp f
          simp (disch := omega) only [B110_39, C3.k0, C3.p4, C7.S.k0, C7.S.pl, C7.S.pr, C7.S.ns, C7.S.L.k0, C7.S.L.p2, C7.S.L.p3, C7.S.L.p4, C7.S.L.k2, C7.S.L.l2, C7.S.L.nq, C7.S.L.nd, C7.S.L.wk, C7.S.L.ca, C7.S.L.cm, C7.S.R.k0, C7.S.R.nr, C7.S.L.tl.k0, C7.S.L.tm.k0, true_and, ga, C7.S.n7, C7.S.m27, C7.S.w27, C7.S.v27 s hs, c64eq, ite_not, bzF, bzT, if_true, if_false, ↓reduceIte, Int.reduceEq, Int.reduceLE, Int.reduceLT, Int.reduceNeg, ne_eq, not_true_eq_false, not_false_eq_true, and_self, and_true, true_and, and_false, false_and, eq_self]
          rw [if_pos (by omega)]
          subst hk
          unfold Wd.frac at hQ
          by_cases hz : W.cur.hsum (W.cur.pa s) (W.cur.nq.toNat + 1) = 0
          · rw [if_pos hz] at hQ ⊢
            simp only [E110, B110_5, B110_25, B110_28, B110_33, B110_76, B110_97, B110_121, B110_126, o1, o0, List.cons_append, List.nil_append, S133 (k := C3.k0), S134 (k := C3.k0), S135 (k := C3.k0), S136 (k := C3.k0), g01]
            exact cst C0 hQ
          · rw [if_neg hz, if_neg hz] at hQ
            rw [if_neg hz]
            refine S21 C7.S.L C7.O hp ?_
            simp only [o1, o0, List.cons_append, List.nil_append, B110_121, C3.k0, true_and]
            refine S137 C3.k0 (by omega) (by omega) (by omega) (by omega) ?_
            simp only [E110, B110_5, B110_25, B110_28, B110_33, B110_76, B110_97, B110_121, B110_126, o1, o0, List.cons_append, List.nil_append, g11]
            exact ctl C0 hQ
        | succ n ih =>
          intro k hk
          have b := C7.O.hsum hp k
          have bp := C7.O.prod hp k
          simp (disch := omega) only [B110_39, C3.k0, C3.p4, C7.S.k0, C7.S.pl, C7.S.pr, C7.S.ns, C7.S.L.k0, C7.S.L.p2, C7.S.L.p3, C7.S.L.p4, C7.S.L.k2, C7.S.L.l2, C7.S.L.nq, C7.S.L.nd, C7.S.L.wk, C7.S.L.ca, C7.S.L.cm, C7.S.R.k0, C7.S.R.nr, C7.S.L.tl.k0, C7.S.L.tm.k0, true_and, ga, C7.S.n7, C7.S.m27, C7.S.w27, C7.S.v27 s hs, c64eq, ite_not, bzF, bzT, if_true, if_false, ↓reduceIte, Int.reduceEq, Int.reduceLE, Int.reduceLT, Int.reduceNeg, ne_eq, not_true_eq_false, not_false_eq_true, and_self, and_true, true_and, and_false, false_and, eq_self]
          rw [if_neg (by omega)]
          refine S21 C7.S.L C7.O hp ?_
          have e : W.cur.hsum (W.cur.pa s) k + W.cur.prod k (W.cur.pa s) = W.cur.hsum (W.cur.pa s) (k + 1) := rfl
          simp (disch := omega) only [o1, o0, List.cons_append, List.nil_append, B110_76, w64_id, w32_id, e]
          exact ih (k + 1) (by omega)
      simp only [o1, o0, List.cons_append, List.nil_append, B110_25, ite_not, bzF, bzT, if_true, if_false, ↓reduceIte, Int.reduceEq, Int.reduceLE, Int.reduceLT, Int.reduceNeg, ne_eq, not_true_eq_false, not_false_eq_true, and_self, and_true, true_and, and_false, false_and, eq_self]
      exact lp (W.cur.nq.toNat + 1) 0 (by omega)
    · unfold Wd.half at hQ
      rw [if_neg (fun z => hf z.2)] at hQ
      rw [bzf hf]
      simp only [E110, B110_5, B110_25, B110_28, B110_33, B110_76, B110_97, B110_121, B110_126, o1, o0, List.cons_append, List.nil_append, ite_not, bzF, bzT, if_true, if_false, ↓reduceIte, Int.reduceEq, Int.reduceLE, Int.reduceLT, Int.reduceNeg, ne_eq, not_true_eq_false, not_false_eq_true, and_self, and_true, true_and, and_false, false_and, eq_self, C3.k0, C3.p4, C7.S.k0, C7.S.pl, C7.S.pr, C7.S.ns, C7.S.L.k0, C7.S.L.p2, C7.S.L.p3, C7.S.L.p4, C7.S.L.k2, C7.S.L.l2, C7.S.L.nq, C7.S.L.nd, C7.S.L.wk, C7.S.L.ca, C7.S.L.cm, C7.S.R.k0, C7.S.R.nr, C7.S.L.tl.k0, C7.S.L.tm.k0, true_and, S133 (k := C3.k0), S134 (k := C3.k0), S135 (k := C3.k0), S136 (k := C3.k0), g01]
      exact cst C0 hQ
  · unfold Wd.half at hQ
    rw [if_neg (fun z => hs z.1)] at hQ
    rw [bzf hs]
    simp only [E110, B110_5, B110_25, B110_28, B110_33, B110_76, B110_97, B110_121, B110_126, o1, o0, List.cons_append, List.nil_append, ite_not, bzF, bzT, if_true, if_false, ↓reduceIte, Int.reduceEq, Int.reduceLE, Int.reduceLT, Int.reduceNeg, ne_eq, not_true_eq_false, not_false_eq_true, and_self, and_true, true_and, and_false, false_and, eq_self, C3.k0, C3.p4, C7.S.k0, C7.S.pl, C7.S.pr, C7.S.ns, C7.S.L.k0, C7.S.L.p2, C7.S.L.p3, C7.S.L.p4, C7.S.L.k2, C7.S.L.l2, C7.S.L.nq, C7.S.L.nd, C7.S.L.wk, C7.S.L.ca, C7.S.L.cm, C7.S.R.k0, C7.S.R.nr, C7.S.L.tl.k0, C7.S.L.tm.k0, true_and, S133 (k := C3.k0), S134 (k := C3.k0), S135 (k := C3.k0), S136 (k := C3.k0), g01]
    exact cst C0 hQ
theorem C221 {W : Wd} {s f : Int} : Mw 221 [xR 138, xI s, xI f] 5 W (W.half s f) := by
  intro g h C O d Q hQ
  have K := C.1
  have M := C.2.2.cur
  have hn := O.nq
  have hn2 := O.ns
  have g2 : gK g 139 = 20 ∧ 0 ≤ (0 : Int) ∧ (0 : Int) < gL g 139 := ⟨K.kat, by decide, by rw [K.lat]; decide⟩
  rw [E221, ga K.k0, K.pat, ga g2, ga K.k0, S200 K M, M.nq]
  have r24 : W.half s f = (W.st 1, 0) → Rn (d + 4) 221 24 [xR 138, xI s, xI f, xI W.cur.nq, xU, xU, xU] [] g h Q := by
    intro e
    rw [e] at hQ
    simp only [E221, B221_12, B221_24, B221_29, B221_53, B221_58, B221_80, B221_93, B221_97, B221_102, o1, o0, List.cons_append, List.nil_append, ite_not, bzF, bzT, if_true, if_false, ↓reduceIte, Int.reduceEq, Int.reduceLE, Int.reduceLT, Int.reduceNeg, ne_eq, not_true_eq_false, not_false_eq_true, and_self, and_true, true_and, and_false, false_and, eq_self, K.k0, S160 (k := K.k0), S161 (k := K.k0), S162 (k := K.k0), g01]
    exact mst C hQ
  by_cases hs : 0 ≤ s ∧ s < W.cur.ns
  · rw [bzt hs]
    simp only [B221_12, o1, o0, List.cons_append, List.nil_append, ite_not, bzF, bzT, if_true, if_false, ↓reduceIte, Int.reduceEq, Int.reduceLE, Int.reduceLT, Int.reduceNeg, ne_eq, not_true_eq_false, not_false_eq_true, and_self, and_true, true_and, and_false, false_and, eq_self]
    by_cases hf : 0 ≤ f ∧ f ≤ W.cur.nq
    · rw [if_neg (by omega), if_pos hf.2]
      have hp := O.pa s hs
      have hr := row_of K M O hs
      unfold Wd.half at hQ
      rw [if_pos ⟨hs, hf⟩] at hQ
      have lp : ∀ n k : Nat, k + n = W.cur.nq.toNat + 1 → Rn (d + 4) 221 36 [xR 138, xI s, xI f, xI W.cur.nq, xL (W.cur.hsum (W.cur.pa s) k), xU, xI (k : Int)] [] g h Q := by
        intro n
        induction n with
        | zero =>
          intro k hk
          have hk : k = W.cur.nq.toNat + 1 := by omega
          have b := O.hsum hp k
          have bp := O.prod hp f
          simp only [B221_36, c64eq, ite_not, bzF, bzT, if_true, if_false, ↓reduceIte, Int.reduceEq, Int.reduceLE, Int.reduceLT, Int.reduceNeg, ne_eq, not_true_eq_false, not_false_eq_true, and_self, and_true, true_and, and_false, false_and, eq_self, K.k0, K.pat]
          rw [if_pos (by omega)]
          subst hk
          unfold Wd.frac at hQ
          by_cases hz : W.cur.hsum (W.cur.pa s) (W.cur.nq.toNat + 1) = 0
          · rw [if_pos hz] at hQ ⊢
            simp only [E221, B221_12, B221_24, B221_29, B221_53, B221_58, B221_80, B221_93, B221_97, B221_102, o1, o0, List.cons_append, List.nil_append, S160 (k := K.k0), S161 (k := K.k0), S162 (k := K.k0), ite_not, bzF, bzT, if_true, if_false, ↓reduceIte, Int.reduceEq, Int.reduceLE, Int.reduceLT, Int.reduceNeg, ne_eq, not_true_eq_false, not_false_eq_true, and_self, and_true, true_and, and_false, false_and, eq_self, g01]
            exact mst C hQ
          · rw [if_neg hz, if_neg hz] at hQ
            rw [if_neg hz]
            simp (disch := omega) only [E215, o1, o0, List.cons_append, List.nil_append, w32_id, B221_93, K.k0, true_and]
            refine S214 K M O hp hr ?_
            simp only [o1, o0, List.cons_append, List.nil_append, B221_97, K.k0, true_and]
            refine S163 K.k0 (by omega) (by omega) (by omega) (by omega) ?_
            simp only [E221, B221_12, B221_24, B221_29, B221_53, B221_58, B221_80, B221_93, B221_97, B221_102, o1, o0, List.cons_append, List.nil_append, g11]
            exact mtl C (fun _ _ _ _ => rfl) (fun _ _ => rfl) (fun _ _ => rfl) hQ
        | succ n ih =>
          intro k hk
          have b := O.hsum hp k
          have bp := O.prod hp k
          simp only [B221_36, c64eq, ite_not, bzF, bzT, if_true, if_false, ↓reduceIte, Int.reduceEq, Int.reduceLE, Int.reduceLT, Int.reduceNeg, ne_eq, not_true_eq_false, not_false_eq_true, and_self, and_true, true_and, and_false, false_and, eq_self, K.k0, K.pat]
          rw [if_neg (by omega)]
          simp (disch := omega) only [E215, o1, o0, List.cons_append, List.nil_append, w32_id, B221_53, K.k0, true_and]
          refine S214 K M O hp hr ?_
          have e : W.cur.hsum (W.cur.pa s) k + W.cur.prod k (W.cur.pa s) = W.cur.hsum (W.cur.pa s) (k + 1) := rfl
          simp (disch := omega) only [o1, o0, List.cons_append, List.nil_append, B221_58, w64_id, w32_id, e]
          exact ih (k + 1) (by omega)
      exact lp (W.cur.nq.toNat + 1) 0 (by omega)
    · have e : W.half s f = (W.st 1, 0) := by unfold Wd.half; rw [if_neg (fun z => hf z.2)]
      by_cases h0 : f < 0
      · rw [if_pos h0]; exact r24 e
      · rw [if_neg h0, if_neg (by omega)]; exact r24 e
  · have e : W.half s f = (W.st 1, 0) := by unfold Wd.half; rw [if_neg (fun z => hs z.1)]
    rw [bzf hs]
    simp only [B221_12, o1, o0, List.cons_append, List.nil_append, ite_not, bzF, bzT, if_true, if_false, ↓reduceIte, Int.reduceEq, Int.reduceLE, Int.reduceLT, Int.reduceNeg, ne_eq, not_true_eq_false, not_false_eq_true, and_self, and_true, true_and, and_false, false_and, eq_self]
    exact r24 e
/-! found, hidden -/
def Wd.found (W : Wd) : Int × Int := if W.fs = -1 then (6, -1) else (0, W.fs)
theorem C128 {W : Wd} : Ci 128 [xR 0] 2 W W.found := by
  intro g h C d Q hQ
  have C0 := C
  obtain ⟨l, r, l2, r2, C1, C2, C3, C4, C5, C6, C7⟩ := C
  unfold Wd.found at hQ
  simp only [E128, B128_14, B128_25, o1, o0, List.cons_append, List.nil_append, ite_not, bzF, bzT, if_true, if_false, ↓reduceIte, Int.reduceEq, Int.reduceLE, Int.reduceLT, Int.reduceNeg, ne_eq, not_true_eq_false, not_false_eq_true, and_self, and_true, true_and, and_false, false_and, eq_self, C3.k0, C3.fs, S133 (k := C3.k0), S134 (k := C3.k0), S135 (k := C3.k0), S136 (k := C3.k0)]
  by_cases h1 : W.fs = -1
  · rw [if_pos h1] at hQ
    simp only [h1, ite_not, bzF, bzT, if_true, if_false, ↓reduceIte, Int.reduceEq, Int.reduceLE, Int.reduceLT, Int.reduceNeg, ne_eq, not_true_eq_false, not_false_eq_true, and_self, and_true, true_and, and_false, false_and, eq_self]
    exact cst C0 hQ
  · rw [if_neg h1] at hQ
    simp only [h1, ite_not, bzF, bzT, if_true, if_false, ↓reduceIte, Int.reduceEq, Int.reduceLE, Int.reduceLT, Int.reduceNeg, ne_eq, not_true_eq_false, not_false_eq_true, and_self, and_true, true_and, and_false, false_and, eq_self]
    exact cst C0 hQ
theorem C258 {W : Wd} : Mi 258 [xR 138] 2 W W.found := by
  intro g h C O d Q hQ
  have K := C.1
  unfold Wd.found at hQ
  simp only [E258, B258_14, B258_25, o1, o0, List.cons_append, List.nil_append, ite_not, bzF, bzT, if_true, if_false, ↓reduceIte, Int.reduceEq, Int.reduceLE, Int.reduceLT, Int.reduceNeg, ne_eq, not_true_eq_false, not_false_eq_true, and_self, and_true, true_and, and_false, false_and, eq_self, K.k0, C.2.1.fs, S160 (k := K.k0), S161 (k := K.k0), S162 (k := K.k0)]
  by_cases h1 : W.fs = -1
  · rw [if_pos h1] at hQ
    simp only [h1, ite_not, bzF, bzT, if_true, if_false, ↓reduceIte, Int.reduceEq, Int.reduceLE, Int.reduceLT, Int.reduceNeg, ne_eq, not_true_eq_false, not_false_eq_true, and_self, and_true, true_and, and_false, false_and, eq_self]
    exact mst C hQ
  · rw [if_neg h1] at hQ
    simp only [h1, ite_not, bzF, bzT, if_true, if_false, ↓reduceIte, Int.reduceEq, Int.reduceLE, Int.reduceLT, Int.reduceNeg, ne_eq, not_true_eq_false, not_false_eq_true, and_self, and_true, true_and, and_false, false_and, eq_self]
    exact mst C hQ
