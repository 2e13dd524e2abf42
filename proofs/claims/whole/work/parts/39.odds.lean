/-! sheetWeight, odds, half -/
theorem MK.set {g : KG} {h : KH} (K : MK g h) {j v : Int} (hj : ¬ (j = 0 ∨ j = 4 ∨ j = 5 ∨ j = 6 ∨ j = 7 ∨ j = 8 ∨ j = 19 ∨ j = 20 ∨ j = 28 ∨ j = 29 ∨ j = 31 ∨ j = 32 ∨ j = 33 ∨ j = 34 ∨ j = 36 ∨ j = 37)) : MK g (hset h 138 j v) := K.keep (fun i hi => hset_i h v (by omega))
theorem C108 {W : Wd} {s m : Int} : Ci 108 [xR 0, xI s, xI m] 4 W (W.sw s m) := by
  intro g h C d Q hQ
  have C0 := C
  obtain ⟨l, r, l2, r2, C1, C2, C3, C4, C5, C6, C7⟩ := C
  have hn := C7.O.ns
  rw [E108, ga C3.k0, S143 C3 C7]
  by_cases hs : 0 ≤ s ∧ s < W.cur.ns
  · have e : W.sw s m = (0, W.cur.prod (if m = 0 then W.cur.nq else 0) (W.cur.pa s)) := by unfold Wd.sw; rw [if_pos hs]
    rw [e] at hQ
    rw [bzt hs]
    have fin : ∀ mf, W.cur.prod mf (W.cur.pa s) = W.cur.prod (if m = 0 then W.cur.nq else 0) (W.cur.pa s) → Rn (d + 3) 108 32 [xR 0, xI s, xI m] [xI mf, xR l, xR 0] g h Q := by
      intro mf hmf
      simp (disch := omega) only [B108_32, C3.k0, C3.p4, C7.S.k0, C7.S.pl, C7.S.pr, C7.S.ns, C7.S.L.k0, C7.S.L.p2, C7.S.L.p3, C7.S.L.p4, C7.S.L.k2, C7.S.L.l2, C7.S.L.nq, C7.S.L.nd, C7.S.L.wk, C7.S.L.ca, C7.S.L.cm, C7.S.R.k0, C7.S.R.nr, C7.S.L.tl.k0, C7.S.L.tm.k0, true_and, o1, o0, List.cons_append, List.nil_append, ga, C7.S.n7, C7.S.m27, C7.S.w27, C7.S.v27 s hs]
      refine S21 C7.S.L C7.O (C7.O.pa s hs) ?_
      simp only [E108, B108_5, B108_13, B108_32, B108_44, B108_47, o1, o0, List.cons_append, List.nil_append, C3.k0, C3.p4, C7.S.k0, C7.S.pl, C7.S.pr, C7.S.ns, C7.S.L.k0, C7.S.L.p2, C7.S.L.p3, C7.S.L.p4, C7.S.L.k2, C7.S.L.l2, C7.S.L.nq, C7.S.L.nd, C7.S.L.wk, C7.S.L.ca, C7.S.L.cm, C7.S.R.k0, C7.S.R.nr, C7.S.L.tl.k0, C7.S.L.tm.k0, true_and, S133 (k := C3.k0), S134 (k := C3.k0), S135 (k := C3.k0), S136 (k := C3.k0)]
      rw [hmf]
      exact cst C0 hQ
    simp only [B108_5, o1, o0, List.cons_append, List.nil_append, ite_not, bzF, bzT, if_true, if_false, ↓reduceIte, Int.reduceEq, Int.reduceLE, Int.reduceLT, Int.reduceNeg, ne_eq, not_true_eq_false, not_false_eq_true, and_self, and_true, true_and, and_false, false_and, eq_self, C3.k0, C3.p4, C7.S.k0, C7.S.pl, C7.S.pr, C7.S.ns, C7.S.L.k0, C7.S.L.p2, C7.S.L.p3, C7.S.L.p4, C7.S.L.k2, C7.S.L.l2, C7.S.L.nq, C7.S.L.nd, C7.S.L.wk, C7.S.L.ca, C7.S.L.cm, C7.S.R.k0, C7.S.R.nr, C7.S.L.tl.k0, C7.S.L.tm.k0, true_and]
    by_cases hm : m = 0
    · rw [if_pos hm]
      exact fin 6 (by rw [if_pos hm, C7.O.prod6])
    · rw [if_neg hm]
      exact fin 0 (by rw [if_neg hm])
  · have e : W.sw s m = (1, -1) := by unfold Wd.sw; rw [if_neg hs]
    rw [e] at hQ
    rw [bzf hs]
    simp only [E108, B108_5, B108_13, B108_32, B108_44, B108_47, o1, o0, List.cons_append, List.nil_append, ite_not, bzF, bzT, if_true, if_false, ↓reduceIte, Int.reduceEq, Int.reduceLE, Int.reduceLT, Int.reduceNeg, ne_eq, not_true_eq_false, not_false_eq_true, and_self, and_true, true_and, and_false, false_and, eq_self, C3.k0, C3.p4, C7.S.k0, C7.S.pl, C7.S.pr, C7.S.ns, C7.S.L.k0, C7.S.L.p2, C7.S.L.p3, C7.S.L.p4, C7.S.L.k2, C7.S.L.l2, C7.S.L.nq, C7.S.L.nd, C7.S.L.wk, C7.S.L.ca, C7.S.L.cm, C7.S.R.k0, C7.S.R.nr, C7.S.L.tl.k0, C7.S.L.tm.k0, true_and, S133 (k := C3.k0), S134 (k := C3.k0), S135 (k := C3.k0), S136 (k := C3.k0)]
    exact cst C0 hQ
theorem C217 {W : Wd} {s m : Int} : Mi 217 [xR 138, xI s, xI m] 5 W (W.sw s m) := by
  intro g h C O d Q hQ
  have K := C.1
  have M := C.2.2.cur
  rw [E217, ga K.k0, S200 K M]
  by_cases hs : 0 ≤ s ∧ s < W.cur.ns
  · have e : W.sw s m = (0, W.cur.prod (if m = 0 then W.cur.nq else 0) (W.cur.pa s)) := by unfold Wd.sw; rw [if_pos hs]
    rw [e] at hQ
    rw [bzt hs]
    have hp := O.prod (O.pa s hs) (if m = 0 then W.cur.nq else 0)
    simp only [B217_5, o1, o0, List.cons_append, List.nil_append, ite_not, bzF, bzT, if_true, if_false, ↓reduceIte, Int.reduceEq, Int.reduceLE, Int.reduceLT, Int.reduceNeg, ne_eq, not_true_eq_false, not_false_eq_true, and_self, and_true, true_and, and_false, false_and, eq_self, K.k0]
    refine S216 K M O hs ?_
    simp (disch := omega) only [E217, B217_5, B217_15, B217_19, B217_27, o1, o0, List.cons_append, List.nil_append, K.k0, true_and, S160 (k := K.k0), S161 (k := K.k0), S162 (k := K.k0), w32_id]
    exact mst C hQ
  · have e : W.sw s m = (1, -1) := by unfold Wd.sw; rw [if_neg hs]
    rw [e] at hQ
    rw [bzf hs]
    simp only [E217, B217_5, B217_15, B217_19, B217_27, o1, o0, List.cons_append, List.nil_append, ite_not, bzF, bzT, if_true, if_false, ↓reduceIte, Int.reduceEq, Int.reduceLE, Int.reduceLT, Int.reduceNeg, ne_eq, not_true_eq_false, not_false_eq_true, and_self, and_true, true_and, and_false, false_and, eq_self, K.k0, S160 (k := K.k0), S161 (k := K.k0), S162 (k := K.k0)]
    exact mst C hQ
/-- the model's two sides of the odds -/
theorem S218 {g : KG} {h : KH} {A : St} (K : MK g h) (M : MS (h 139) A) (O : A.Ok) {s sh : Int} (hs : ins A s) (hsh : 0 ≤ sh ∧ sh ≤ 16) {d : Nat} {Q : Option KV → KG → KH → Prop} (hQ : Q none g (hset (hset h 138 26 (A.mside s (A.pa s) sh)) 138 27 (A.mside s (A.pa s) sh + A.aside s (A.pa s) sh))) : Cl (d + 5) 218 [xR 138, xI s, xI sh] g h Q := by
  have hn := O.ns
  have s0 := hs.1
  have s1 := hs.2
  have hp := O.pa s hs
  have b1 := O.mside (s := s) hp hsh
  have b2 := O.aside (s := s) hp hsh
  have ca := O.ca
  have cm := O.cm
  have ec := M.cd s hs
  have fin : ∀ y, y = cw (A.cd s) A.ca → ∀ z, z = cw (A.cd s) A.cm → Rn (d + 4) 218 75 [xR 138, xI s, xI sh, xI (A.cd s), xI y, xU] [xI z] g h Q := by
    intro y hy z hz
    rw [B218_75, ga K.k0]
    refine S216 K M O hs ?_
    rw [if_neg (by decide)]
    have e1 : sh * A.prod 0 (A.pa s) * z = A.mside s (A.pa s) sh := by rw [hz]; rfl
    simp (disch := omega) only [o1, o0, List.cons_append, List.nil_append, B218_86, K.k0, true_and, w64_id, e1]
    have K2 := K.set (j := 26) (v := A.mside s (A.pa s) sh) (by decide)
    refine S216 (h := hset h 138 26 (A.mside s (A.pa s) sh)) K2 (by rw [hset_a _ _ _ (by decide)]; exact M) O hs ?_
    rw [if_pos rfl]
    have e2 : (16 - sh) * A.prod A.nq (A.pa s) * y = A.aside s (A.pa s) sh := by rw [hy]; rfl
    simp (disch := omega) only [o1, o0, List.cons_append, List.nil_append, B218_110, K.k0, true_and, hset_e, w32_id, w64_id, e2]
    exact hQ
  have mid : ∀ y, y = cw (A.cd s) A.ca → Rn (d + 4) 218 39 [xR 138, xI s, xI sh, xI (A.cd s), xU, xU] [xI y] g h Q := by
    intro y hy
    simp (disch := omega) only [B218_39, K.k0, K.pat, K.kat, K.lat, true_and, ga, M.cm, w32_id, ite_not, bzF, bzT, if_true, if_false, ↓reduceIte, Int.reduceEq, Int.reduceLE, Int.reduceLT, Int.reduceNeg, ne_eq, not_true_eq_false, not_false_eq_true, and_self, and_true, true_and, and_false, false_and, eq_self]
    by_cases h1 : A.cd s = 0
    · rw [if_pos h1]; exact fin y hy 16 (by unfold cw; rw [if_pos h1])
    · rw [if_neg h1]
      by_cases h2 : A.cd s = 1
      · rw [if_pos h2]; exact fin y hy _ (by unfold cw; rw [if_neg h1, if_pos h2])
      · rw [if_neg h2]; exact fin y hy _ (by unfold cw; rw [if_neg h1, if_neg h2])
  rw [E218, ga K.k0, S205 K ⟨s0, by omega⟩ (by decide), ec]
  simp (disch := omega) only [o1, o0, List.cons_append, List.nil_append, B218_6, K.k0, K.pat, K.kat, K.lat, true_and, ga, M.ca, w32_id, ite_not, bzF, bzT, if_true, if_false, ↓reduceIte, Int.reduceEq, Int.reduceLE, Int.reduceLT, Int.reduceNeg, ne_eq, not_true_eq_false, not_false_eq_true, and_self, and_true, true_and, and_false, false_and, eq_self]
  by_cases h1 : A.cd s = 0
  · rw [if_pos h1]; exact mid 16 (by unfold cw; rw [if_pos h1])
  · rw [if_neg h1]
    by_cases h2 : A.cd s = 1
    · rw [if_pos h2]; exact mid _ (by unfold cw; rw [if_neg h1, if_pos h2])
    · rw [if_neg h2]; exact mid _ (by unfold cw; rw [if_neg h1, if_neg h2])
def Wd.odds (W : Wd) (s sh : Int) : Wd × Int := if (0 ≤ s ∧ s < W.cur.ns) ∧ 0 ≤ sh ∧ sh ≤ 16 then W.frac (W.cur.mside s (W.cur.pa s) sh) (W.cur.mside s (W.cur.pa s) sh + W.cur.aside s (W.cur.pa s) sh) else (W.st 1, 0)
theorem C109 {W : Wd} {s sh : Int} : Cw 109 [xR 0, xI s, xI sh] 5 W (W.odds s sh) := by
  intro g h C d Q hQ
  have C0 := C
  obtain ⟨l, r, l2, r2, C1, C2, C3, C4, C5, C6, C7⟩ := C
  have hn := C7.O.ns
  rw [E109, ga C3.k0, S143 C3 C7]
  by_cases hs : 0 ≤ s ∧ s < W.cur.ns
  · rw [bzt hs]
    simp only [B109_5, o1, o0, List.cons_append, List.nil_append, ite_not, bzF, bzT, if_true, if_false, ↓reduceIte, Int.reduceEq, Int.reduceLE, Int.reduceLT, Int.reduceNeg, ne_eq, not_true_eq_false, not_false_eq_true, and_self, and_true, true_and, and_false, false_and, eq_self, S146]
    by_cases hsh : 0 ≤ sh ∧ sh ≤ 16
    · rw [bzt hsh]
      have hp := C7.O.pa s hs
      have b1 := C7.O.mside (s := s) hp hsh
      have b2 := C7.O.aside (s := s) hp hsh
      unfold Wd.odds at hQ
      rw [if_pos ⟨hs, hsh⟩] at hQ
      simp (disch := omega) only [B109_17, C3.k0, C3.p4, C7.S.k0, C7.S.pl, C7.S.pr, C7.S.ns, C7.S.L.k0, C7.S.L.p2, C7.S.L.p3, C7.S.L.p4, C7.S.L.k2, C7.S.L.l2, C7.S.L.nq, C7.S.L.nd, C7.S.L.wk, C7.S.L.ca, C7.S.L.cm, C7.S.R.k0, C7.S.R.nr, C7.S.L.tl.k0, C7.S.L.tm.k0, true_and, o1, o0, List.cons_append, List.nil_append, ite_not, bzF, bzT, if_true, if_false, ↓reduceIte, Int.reduceEq, Int.reduceLE, Int.reduceLT, Int.reduceNeg, ne_eq, not_true_eq_false, not_false_eq_true, and_self, and_true, true_and, and_false, false_and, eq_self, ga, C7.S.n7, C7.S.m27, C7.S.w27, C7.S.v27 s hs]
      refine S56 C7.S C7.O hs hp hsh ?_
      simp (disch := omega) only [B109_44, C3.k0, C3.p4, C7.S.k0, C7.S.pl, C7.S.pr, C7.S.ns, C7.S.L.k0, C7.S.L.p2, C7.S.L.p3, C7.S.L.p4, C7.S.L.k2, C7.S.L.l2, C7.S.L.nq, C7.S.L.nd, C7.S.L.wk, C7.S.L.ca, C7.S.L.cm, C7.S.R.k0, C7.S.R.nr, C7.S.L.tl.k0, C7.S.L.tm.k0, true_and, o1, o0, List.cons_append, List.nil_append, ite_not, bzF, bzT, if_true, if_false, ↓reduceIte, Int.reduceEq, Int.reduceLE, Int.reduceLT, Int.reduceNeg, ne_eq, not_true_eq_false, not_false_eq_true, and_self, and_true, true_and, and_false, false_and, eq_self, ga, C7.S.n7, C7.S.m27, C7.S.w27, C7.S.v27 s hs]
      refine S57 C7.S C7.O hs hp hsh ?_
      simp (disch := omega) only [o1, o0, List.cons_append, List.nil_append, B109_64, w64_id, c64eq, ite_not, bzF, bzT, if_true, if_false, ↓reduceIte, Int.reduceEq, Int.reduceLE, Int.reduceLT, Int.reduceNeg, ne_eq, not_true_eq_false, not_false_eq_true, and_self, and_true, true_and, and_false, false_and, eq_self, C3.k0]
      unfold Wd.frac at hQ
      by_cases hz : W.cur.mside s (W.cur.pa s) sh + W.cur.aside s (W.cur.pa s) sh = 0
      · rw [if_pos hz] at hQ ⊢
        simp only [E109, B109_5, B109_17, B109_20, B109_25, B109_44, B109_64, B109_80, B109_90, o1, o0, List.cons_append, List.nil_append, S133 (k := C3.k0), S134 (k := C3.k0), S135 (k := C3.k0), S136 (k := C3.k0), g01]
        exact cst C0 hQ
      · rw [if_neg hz] at hQ ⊢
        refine S137 C3.k0 (by omega) (by omega) (by omega) (by omega) ?_
        simp only [E109, B109_5, B109_17, B109_20, B109_25, B109_44, B109_64, B109_80, B109_90, o1, o0, List.cons_append, List.nil_append, g11]
        exact ctl C0 hQ
    · unfold Wd.odds at hQ
      rw [if_neg (fun z => hsh z.2)] at hQ
      rw [bzf hsh]
      simp only [E109, B109_5, B109_17, B109_20, B109_25, B109_44, B109_64, B109_80, B109_90, o1, o0, List.cons_append, List.nil_append, ite_not, bzF, bzT, if_true, if_false, ↓reduceIte, Int.reduceEq, Int.reduceLE, Int.reduceLT, Int.reduceNeg, ne_eq, not_true_eq_false, not_false_eq_true, and_self, and_true, true_and, and_false, false_and, eq_self, C3.k0, C3.p4, C7.S.k0, C7.S.pl, C7.S.pr, C7.S.ns, C7.S.L.k0, C7.S.L.p2, C7.S.L.p3, C7.S.L.p4, C7.S.L.k2, C7.S.L.l2, C7.S.L.nq, C7.S.L.nd, C7.S.L.wk, C7.S.L.ca, C7.S.L.cm, C7.S.R.k0, C7.S.R.nr, C7.S.L.tl.k0, C7.S.L.tm.k0, true_and, S133 (k := C3.k0), S134 (k := C3.k0), S135 (k := C3.k0), S136 (k := C3.k0), g01]
      exact cst C0 hQ
  · unfold Wd.odds at hQ
    rw [if_neg (fun z => hs z.1)] at hQ
    rw [bzf hs]
    simp only [E109, B109_5, B109_17, B109_20, B109_25, B109_44, B109_64, B109_80, B109_90, o1, o0, List.cons_append, List.nil_append, ite_not, bzF, bzT, if_true, if_false, ↓reduceIte, Int.reduceEq, Int.reduceLE, Int.reduceLT, Int.reduceNeg, ne_eq, not_true_eq_false, not_false_eq_true, and_self, and_true, true_and, and_false, false_and, eq_self, C3.k0, C3.p4, C7.S.k0, C7.S.pl, C7.S.pr, C7.S.ns, C7.S.L.k0, C7.S.L.p2, C7.S.L.p3, C7.S.L.p4, C7.S.L.k2, C7.S.L.l2, C7.S.L.nq, C7.S.L.nd, C7.S.L.wk, C7.S.L.ca, C7.S.L.cm, C7.S.R.k0, C7.S.R.nr, C7.S.L.tl.k0, C7.S.L.tm.k0, true_and, S133 (k := C3.k0), S134 (k := C3.k0), S135 (k := C3.k0), S136 (k := C3.k0), g01]
    exact cst C0 hQ
theorem C220 {W : Wd} {s sh : Int} : Mw 220 [xR 138, xI s, xI sh] 6 W (W.odds s sh) := by
  intro g h C O d Q hQ
  have K := C.1
  have M := C.2.2.cur
  rw [E220, ga K.k0, S200 K M]
  by_cases hs : 0 ≤ s ∧ s < W.cur.ns
  · rw [bzt hs]
    simp only [B220_5, o1, o0, List.cons_append, List.nil_append, ite_not, bzF, bzT, if_true, if_false, ↓reduceIte, Int.reduceEq, Int.reduceLE, Int.reduceLT, Int.reduceNeg, ne_eq, not_true_eq_false, not_false_eq_true, and_self, and_true, true_and, and_false, false_and, eq_self, S219]
    by_cases hsh : 0 ≤ sh ∧ sh ≤ 16
    · rw [bzt hsh]
      have hp := O.pa s hs
      have b1 := O.mside (s := s) hp hsh
      have b2 := O.aside (s := s) hp hsh
      unfold Wd.odds at hQ
      rw [if_pos ⟨hs, hsh⟩] at hQ
      simp only [B220_12, o1, o0, List.cons_append, List.nil_append, ite_not, bzF, bzT, if_true, if_false, ↓reduceIte, Int.reduceEq, Int.reduceLE, Int.reduceLT, Int.reduceNeg, ne_eq, not_true_eq_false, not_false_eq_true, and_self, and_true, true_and, and_false, false_and, eq_self, K.k0]
      refine S218 K M O hs hsh ?_
      have r26 : (hset (hset h 138 26 (W.cur.mside s (W.cur.pa s) sh)) 138 27 (W.cur.mside s (W.cur.pa s) sh + W.cur.aside s (W.cur.pa s) sh)) 138 26 = W.cur.mside s (W.cur.pa s) sh := by rw [hset_i _ _ (by decide), hset_e]
      have z1 : ∀ a, 139 ≤ a → a < 155 → (a < 147 ∨ a = 152) → (hset (hset h 138 26 (W.cur.mside s (W.cur.pa s) sh)) 138 27 (W.cur.mside s (W.cur.pa s) sh + W.cur.aside s (W.cur.pa s) sh)) a = h a := fun a h1 h2 h3 => by rw [hset_a _ _ _ (by omega), hset_a _ _ _ (by omega)]
      have z2 : ∀ a, a < 138 → (hset (hset h 138 26 (W.cur.mside s (W.cur.pa s) sh)) 138 27 (W.cur.mside s (W.cur.pa s) sh + W.cur.aside s (W.cur.pa s) sh)) a = h a := fun a h1 => by rw [hset_a _ _ _ (by omega), hset_a _ _ _ (by omega)]
      simp only [B220_27, o1, o0, List.cons_append, List.nil_append, K.k0, hset_e, r26, c64eq, ite_not, bzF, bzT, if_true, if_false, ↓reduceIte, Int.reduceEq, Int.reduceLE, Int.reduceLT, Int.reduceNeg, ne_eq, not_true_eq_false, not_false_eq_true, and_self, and_true, true_and, and_false, false_and, eq_self]
      unfold Wd.frac at hQ
      by_cases hz : W.cur.mside s (W.cur.pa s) sh + W.cur.aside s (W.cur.pa s) sh = 0
      · rw [if_pos hz] at hQ
        rw [if_pos hz]
        simp only [E220, B220_5, B220_12, B220_15, B220_20, B220_27, B220_42, B220_57, o1, o0, List.cons_append, List.nil_append, ite_not, bzF, bzT, if_true, if_false, ↓reduceIte, Int.reduceEq, Int.reduceLE, Int.reduceLT, Int.reduceNeg, ne_eq, not_true_eq_false, not_false_eq_true, and_self, and_true, true_and, and_false, false_and, eq_self, S160 (k := K.k0), S161 (k := K.k0), S162 (k := K.k0), g01]
        exact mst2 C z1 (fun j hj => by rw [hset_i _ _ (by omega), hset_i _ _ (by omega)]) z2 hQ
      · rw [if_neg hz] at hQ
        rw [if_neg hz]
        refine S163 K.k0 (by omega) (by omega) (by omega) (by omega) ?_
        simp only [E220, B220_5, B220_12, B220_15, B220_20, B220_27, B220_42, B220_57, o1, o0, List.cons_append, List.nil_append, g11]
        exact mtl C z1 (fun j hj => by unfold qm at hj; rw [hset_i _ _ (by omega), hset_i _ _ (by omega)]) z2 hQ
    · unfold Wd.odds at hQ
      rw [if_neg (fun z => hsh z.2)] at hQ
      rw [bzf hsh]
      simp only [E220, B220_5, B220_12, B220_15, B220_20, B220_27, B220_42, B220_57, o1, o0, List.cons_append, List.nil_append, ite_not, bzF, bzT, if_true, if_false, ↓reduceIte, Int.reduceEq, Int.reduceLE, Int.reduceLT, Int.reduceNeg, ne_eq, not_true_eq_false, not_false_eq_true, and_self, and_true, true_and, and_false, false_and, eq_self, K.k0, S160 (k := K.k0), S161 (k := K.k0), S162 (k := K.k0), g01]
      exact mst C hQ
  · unfold Wd.odds at hQ
    rw [if_neg (fun z => hs z.1)] at hQ
    rw [bzf hs]
    simp only [E220, B220_5, B220_12, B220_15, B220_20, B220_27, B220_42, B220_57, o1, o0, List.cons_append, List.nil_append, ite_not, bzF, bzT, if_true, if_false, ↓reduceIte, Int.reduceEq, Int.reduceLE, Int.reduceLT, Int.reduceNeg, ne_eq, not_true_eq_false, not_false_eq_true, and_self, and_true, true_and, and_false, false_and, eq_self, K.k0, S160 (k := K.k0), S161 (k := K.k0), S162 (k := K.k0), g01]
    exact mst C hQ
