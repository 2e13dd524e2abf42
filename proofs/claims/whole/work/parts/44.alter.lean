/-! card on the model's side; alter -/
theorem C212 {W : Wd} {s c : Int} : Mw 212 [xR 138, xI s, xI c] 2 W (W.card s c) := by
  intro g h C O d Q hQ
  have K := C.1
  have M := C.2.2.cur
  have hn2 := O.ns
  rw [E212, ga K.k0, S200 K M]
  have no : ¬ ((0 ≤ s ∧ s < W.cur.ns) ∧ 0 ≤ c ∧ c ≤ 2) → Rn (d + 1) 212 17 [xR 138, xI s, xI c] [] g h Q := by
    intro z
    unfold Wd.card at hQ
    rw [if_neg z] at hQ
    simp only [E212, B212_5, B212_17, B212_22, B212_44, o1, o0, List.cons_append, List.nil_append, ite_not, bzF, bzT, if_true, if_false, ↓reduceIte, Int.reduceEq, Int.reduceLE, Int.reduceLT, Int.reduceNeg, ne_eq, not_true_eq_false, not_false_eq_true, and_self, and_true, true_and, and_false, false_and, eq_self, K.k0, S160 (k := K.k0), S161 (k := K.k0), S162 (k := K.k0), g01]
    exact mst C hQ
  by_cases hs : 0 ≤ s ∧ s < W.cur.ns
  · rw [bzt hs]
    simp only [B212_5, o1, o0, List.cons_append, List.nil_append, ite_not, bzF, bzT, if_true, if_false, ↓reduceIte, Int.reduceEq, Int.reduceLE, Int.reduceLT, Int.reduceNeg, ne_eq, not_true_eq_false, not_false_eq_true, and_self, and_true, true_and, and_false, false_and, eq_self]
    by_cases hc : 0 ≤ c ∧ c ≤ 2
    · rw [if_neg (by omega), if_pos hc.2]
      unfold Wd.card at hQ
      rw [if_pos ⟨hs, hc⟩] at hQ
      simp (disch := omega) only [E212, B212_5, B212_17, B212_22, B212_44, o1, o0, List.cons_append, List.nil_append, ite_not, bzF, bzT, if_true, if_false, ↓reduceIte, Int.reduceEq, Int.reduceLE, Int.reduceLT, Int.reduceNeg, ne_eq, not_true_eq_false, not_false_eq_true, and_self, and_true, true_and, and_false, false_and, eq_self, K.k0, K.pat, K.kat, K.lat, S160 (k := K.k0), S161 (k := K.k0), S162 (k := K.k0), w32_id, g11, ga]
      have U := C.sheet (h2 := hset (hset h 139 (250 + 13 * s + 4) c) 138 1 0) O (ns := W.cur.ns) (ask := W.cur.ask) (dr := W.cur.dr) (fr := W.cur.fr) (tt := W.cur.tt) (pa := W.cur.pa) (cd := kset W.cur.cd s c) (tr := W.cur.tr) (hf := W.cur.hf) hn2.2 (fun a _ _ _ => by rw [hset_a _ _ _ (by omega), hset_a _ _ _ (by omega)]) (fun j hj => by rw [hset_i _ _ hj.1, hset_a _ _ _ (by decide)]) (fun j hj => by rw [hset_a _ _ _ (by decide), hset_i _ _ (by omega)]) (by rw [hset_a _ _ _ (by decide), hset_i _ _ (by omega)]; exact M.ns)
        (fun i i0 i1 => by rw [hset_a _ _ _ (by decide), hset_i _ _ (by omega)]; exact M.ask i ⟨i0, i1⟩) (fun i i0 i1 => by rw [hset_a _ _ _ (by decide), hset_i _ _ (by omega)]; exact M.dr i ⟨i0, i1⟩) (fun i i0 i1 => by rw [hset_a _ _ _ (by decide), hset_i _ _ (by omega)]; exact M.fr i ⟨i0, i1⟩) (fun i i0 i1 => by rw [hset_a _ _ _ (by decide), hset_i _ _ (by omega)]; exact M.tt i ⟨i0, i1⟩)
        (fun i i0 i1 => by
          rw [hset_a _ _ _ (by decide)]
          unfold kset
          by_cases hi : i = s
          · rw [if_pos hi, hi, hset_e]
          · rw [if_neg hi, hset_i _ _ (by omega)]; exact M.cd i ⟨i0, i1⟩)
        (fun i i0 i1 => by rw [hset_a _ _ _ (by decide), hset_i _ _ (by omega)]; exact M.tr i ⟨i0, i1⟩) (fun i i0 i1 h3 => by rw [hset_a _ _ _ (by decide), hset_i _ _ (by omega)]; exact M.hf i ⟨i0, i1⟩ h3) (fun i q i0 i1 q0 q1 => by have hq6 := O.nq; rw [hset_a _ _ _ (by decide), hset_i _ _ (by omega)]; exact M.pa i q ⟨i0, i1⟩ ⟨q0, q1⟩)
      rw [hset_e] at U
      exact hQ _ U (fun a ha => by rw [hset_a _ _ _ (by omega), hset_a _ _ _ (by omega)])
    · by_cases h0 : c < 0
      · rw [if_pos h0]; exact no (fun z => hc z.2)
      · rw [if_neg h0, if_neg (by omega)]; exact no (fun z => hc z.2)
  · rw [bzf hs]
    simp only [B212_5, o1, o0, List.cons_append, List.nil_append, ite_not, bzF, bzT, if_true, if_false, ↓reduceIte, Int.reduceEq, Int.reduceLE, Int.reduceLT, Int.reduceNeg, ne_eq, not_true_eq_false, not_false_eq_true, and_self, and_true, true_and, and_false, false_and, eq_self]
    exact no (fun z => hs z.1)
def St.alter (A : St) (s q a : Int) : St := A.shs A.ns A.ask A.dr A.fr A.tt (kset A.pa s (wa (A.pa s) q a)) A.cd (kset A.tr s 0) A.hf
theorem row_wa {A : St} (O : A.Ok) {p q a : Int} (hp : A.row p) (hq : inq A q) (ha : 0 ≤ a ∧ a < A.ch q) : A.row (wa p q a) := by
  have h6 := O.nq
  have q0 := hq.1
  have q1 := hq.2
  have hch := O.ch q hq
  have w := wa_r hp.1 hp.2.1 q0 (by omega : q < 6) ha.1 (by omega : a < 4)
  refine ⟨w.1, w.2, fun k hk => ?_, fun k k0 k1 => ?_⟩
  · by_cases e : k = q
    · rw [e, wa_e hp.1 hp.2.1 q0 (by omega) ha.1 (by omega)]; exact ha.2
    · rw [wa_n hp.1 hp.2.1 q0 (by omega) ha.1 (by omega) hk.1 (by have := hk.2; omega) e]; exact hp.2.2.1 k hk
  · rw [wa_n hp.1 hp.2.1 q0 (by omega) ha.1 (by omega) (by omega) k1 (by omega)]; exact hp.2.2.2 k k0 k1
theorem St.Ok.alter {A : St} (O : A.Ok) {s q a : Int} (hs : ins A s) (hq : inq A q) (ha : 0 ≤ a ∧ a < A.ch q) : (A.alter s q a).Ok := by
  refine ⟨O.nq, O.nd, O.ns, O.nr, O.wk, O.ca, O.cm, O.ch, O.gb, O.wt, O.ws, O.dx, O.dy, O.ask, O.dr, O.fr, O.tt, fun i hi => ?_, O.cd, fun i hi => ?_, fun i hi h3 => ?_, O.rs0, O.rs, O.rsm, O.op, O.dp⟩
  · have e : A.row (kset A.pa s (wa (A.pa s) q a) i) := by
      unfold kset
      split
      · exact row_wa O (O.pa s hs) hq ha
      · exact O.pa i hi
    exact e
  · show 0 ≤ kset A.tr s 0 i ∧ kset A.tr s 0 i ≤ 3
    unfold kset
    split
    · decide
    · exact O.tr i hi
  · have h3 : kset A.tr s 0 i = 3 := h3
    unfold kset at h3
    split at h3
    · exact absurd h3 (by decide)
    · exact O.hf i hi h3
def Wd.alter (W : Wd) (s q a : Int) : Wd × Int := if (0 ≤ s ∧ s < W.cur.ns) ∧ (0 ≤ q ∧ q < W.cur.nq) ∧ 0 ≤ a ∧ a < W.cur.ch q then (W.cu (W.cur.alter s q a) 0, 1) else (W.st 1, 0)
theorem C106 {W : Wd} {s q a : Int} : Cw 106 [xR 0, xI s, xI q, xI a] 4 W (W.alter s q a) := by
  intro g h C d Q hQ
  have C0 := C
  obtain ⟨l, r, l2, r2, C1, C2, C3, C4, C5, C6, C7⟩ := C
  have hn := C7.O.nq
  have hn2 := C7.O.ns
  rw [E106, ga C3.k0, S143 C3 C7]
  have no : ¬ ((0 ≤ s ∧ s < W.cur.ns) ∧ (0 ≤ q ∧ q < W.cur.nq) ∧ 0 ≤ a ∧ a < W.cur.ch q) → Rn (d + 3) 106 17 [xR 0, xI s, xI q, xI a] [] g h Q := by
    intro z
    unfold Wd.alter at hQ
    rw [if_neg z] at hQ
    simp only [E106, B106_5, B106_14, B106_17, B106_22, B106_45, B106_60, o1, o0, List.cons_append, List.nil_append, ite_not, bzF, bzT, if_true, if_false, ↓reduceIte, Int.reduceEq, Int.reduceLE, Int.reduceLT, Int.reduceNeg, ne_eq, not_true_eq_false, not_false_eq_true, and_self, and_true, true_and, and_false, false_and, eq_self, C3.k0, C3.p4, C7.S.k0, C7.S.pl, C7.S.pr, C7.S.ns, C7.S.L.k0, C7.S.L.p2, C7.S.L.p3, C7.S.L.p4, C7.S.L.k2, C7.S.L.l2, C7.S.L.nq, C7.S.L.nd, C7.S.L.wk, C7.S.L.ca, C7.S.L.cm, C7.S.R.k0, C7.S.R.nr, C7.S.L.tl.k0, C7.S.L.tm.k0, true_and, S133 (k := C3.k0), S134 (k := C3.k0), S135 (k := C3.k0), S136 (k := C3.k0), g01]
    exact cst C0 hQ
  by_cases hs : 0 ≤ s ∧ s < W.cur.ns
  · rw [bzt hs]
    simp only [B106_5, o1, o0, List.cons_append, List.nil_append, ite_not, bzF, bzT, if_true, if_false, ↓reduceIte, Int.reduceEq, Int.reduceLE, Int.reduceLT, Int.reduceNeg, ne_eq, not_true_eq_false, not_false_eq_true, and_self, and_true, true_and, and_false, false_and, eq_self, C3.k0, S141 C3 C7]
    by_cases hq : (0 ≤ q ∧ q < W.cur.nq) ∧ 0 ≤ a ∧ a < W.cur.ch q
    · rw [bzt hq]
      have S := C7.S
      have hp := C7.O.pa s hs
      have hch := C7.O.ch q hq.1
      unfold Wd.alter at hQ
      rw [if_pos ⟨hs, hq⟩] at hQ
      have z4 : ∀ x, (hset h 27 s x) 0 = h 0 := fun x => hset_a _ _ _ (by decide)
      have z6 : ∀ x, (hset h 27 s x) 6 = h 6 := fun x => hset_a _ _ _ (by decide)
      simp (disch := omega) only [B106_14, o1, o0, List.cons_append, List.nil_append, ite_not, bzF, bzT, if_true, if_false, ↓reduceIte, Int.reduceEq, Int.reduceLE, Int.reduceLT, Int.reduceNeg, ne_eq, not_true_eq_false, not_false_eq_true, and_self, and_true, true_and, and_false, false_and, eq_self, C3.k0, C3.p4, C7.S.k0, C7.S.pl, C7.S.pr, C7.S.ns, C7.S.L.k0, C7.S.L.p2, C7.S.L.p3, C7.S.L.p4, C7.S.L.k2, C7.S.L.l2, C7.S.L.nq, C7.S.L.nd, C7.S.L.wk, C7.S.L.ca, C7.S.L.cm, C7.S.R.k0, C7.S.R.nr, C7.S.L.tl.k0, C7.S.L.tm.k0, true_and, S.n7, S.m27, S.w27, S.v27 s hs, ga]
      rw [S152 hp.1 hp.2.1 (by omega) (by omega) (by omega) (by omega)]
      simp (disch := omega) only [E106, B106_5, B106_14, B106_17, B106_22, B106_45, B106_60, o1, o0, List.cons_append, List.nil_append, ite_not, bzF, bzT, if_true, if_false, ↓reduceIte, Int.reduceEq, Int.reduceLE, Int.reduceLT, Int.reduceNeg, ne_eq, not_true_eq_false, not_false_eq_true, and_self, and_true, true_and, and_false, false_and, eq_self, C3.k0, C3.p4, C7.S.k0, C7.S.pl, C7.S.pr, C7.S.ns, C7.S.L.k0, C7.S.L.p2, C7.S.L.p3, C7.S.L.p4, C7.S.L.k2, C7.S.L.l2, C7.S.L.nq, C7.S.L.nd, C7.S.L.wk, C7.S.L.ca, C7.S.L.cm, C7.S.R.k0, C7.S.R.nr, C7.S.L.tl.k0, C7.S.L.tm.k0, true_and, S133 (k := C3.k0), S134 (k := C3.k0), S135 (k := C3.k0), S136 (k := C3.k0), g11, S.m27, S.w27, ga, z4, z6, S.n9, S.m29, S.w29]
      have U := C0.sheet (h2 := hset (hset (hset h 27 s (wa (W.cur.pa s) q a)) 29 s 0) 0 11 0) (ns := W.cur.ns) (ask := W.cur.ask) (dr := W.cur.dr) (fr := W.cur.fr) (tt := W.cur.tt) (pa := kset W.cur.pa s (wa (W.cur.pa s) q a)) (cd := W.cur.cd) (tr := kset W.cur.tr s 0) (hf := W.cur.hf) (C7.O.alter hs hq.1 hq.2) (fun a _ _ _ _ _ => by rw [hset_a _ _ _ (by omega), hset_a _ _ _ (by omega), hset_a _ _ _ (by omega)]) (fun j _ _ => by rw [hset_a _ _ _ (by decide), hset_a _ _ _ (by decide), hset_a _ _ _ (by decide)]) (fun j hj => by rw [hset_i _ _ hj, hset_a _ _ _ (by decide), hset_a _ _ _ (by decide)]) (by rw [hset_a _ _ _ (by decide), hset_a _ _ _ (by decide), hset_a _ _ _ (by decide)]; exact S.ns)
        (fun i i0 i1 => by rw [hset_a _ _ _ (by decide), hset_a _ _ _ (by decide), hset_a _ _ _ (by decide)]; exact S.v23 i ⟨i0, i1⟩) (fun i i0 i1 => by rw [hset_a _ _ _ (by decide), hset_a _ _ _ (by decide), hset_a _ _ _ (by decide)]; exact S.v24 i ⟨i0, i1⟩) (fun i i0 i1 => by rw [hset_a _ _ _ (by decide), hset_a _ _ _ (by decide), hset_a _ _ _ (by decide)]; exact S.v25 i ⟨i0, i1⟩) (fun i i0 i1 => by rw [hset_a _ _ _ (by decide), hset_a _ _ _ (by decide), hset_a _ _ _ (by decide)]; exact S.v26 i ⟨i0, i1⟩)
        (fun i i0 i1 => by
          rw [hset_a _ _ _ (by decide), hset_a _ _ _ (by decide)]
          unfold kset
          by_cases hi : i = s
          · rw [if_pos hi, hi, hset_e]
          · rw [if_neg hi, hset_i _ _ hi]; exact S.v27 i ⟨i0, i1⟩)
        (fun i i0 i1 => by rw [hset_a _ _ _ (by decide), hset_a _ _ _ (by decide), hset_a _ _ _ (by decide)]; exact S.v28 i ⟨i0, i1⟩)
        (fun i i0 i1 => by
          rw [hset_a _ _ _ (by decide)]
          unfold kset
          by_cases hi : i = s
          · rw [if_pos hi, hi, hset_e]
          · rw [if_neg hi, hset_i _ _ hi, hset_a _ _ _ (by decide)]; exact S.v29 i ⟨i0, i1⟩)
        (fun i i0 i1 h3 => by
          unfold kset at h3
          by_cases hi : i = s
          · rw [if_pos hi] at h3; exact absurd h3 (by decide)
          · rw [if_neg hi] at h3
            rw [hset_a _ _ _ (by decide), hset_a _ _ _ (by decide), hset_a _ _ _ (by decide)]; exact S.v30 i ⟨i0, i1⟩ h3)
      rw [hset_e] at U
      exact hQ _ U (fun a ha => by rw [hset_a _ _ _ (by omega), hset_a _ _ _ (by omega), hset_a _ _ _ (by omega)])
    · rw [bzf hq]
      simp only [B106_14, o1, o0, List.cons_append, List.nil_append, ite_not, bzF, bzT, if_true, if_false, ↓reduceIte, Int.reduceEq, Int.reduceLE, Int.reduceLT, Int.reduceNeg, ne_eq, not_true_eq_false, not_false_eq_true, and_self, and_true, true_and, and_false, false_and, eq_self]
      exact no (fun z => hq z.2)
  · rw [bzf hs]
    simp only [B106_5, o1, o0, List.cons_append, List.nil_append, ite_not, bzF, bzT, if_true, if_false, ↓reduceIte, Int.reduceEq, Int.reduceLE, Int.reduceLT, Int.reduceNeg, ne_eq, not_true_eq_false, not_false_eq_true, and_self, and_true, true_and, and_false, false_and, eq_self]
    exact no (fun z => hs z.1)
