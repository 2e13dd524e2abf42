/-! the world with other sheets -/
def St.shs (A : St) (ns : Int) (ask dr fr tt pa cd tr hf : Int → Int) : St := St.mk_ A.nq A.nd ns A.nr A.wk A.ca A.cm A.ch A.gb A.wt A.dx A.dy ask dr fr tt pa cd tr hf A.rs A.op A.nm A.dp
def Wd.cu (W : Wd) (A : St) (s : Int) : Wd := Wd.mk_ A W.mks W.nmk W.ts W.tm W.tv W.tp W.fed s W.top W.bot W.fk W.fp W.hm W.hd W.fs
theorem MS.keep {f f2 : Int → Int} {A : St} (e : ∀ j, 0 ≤ j → f2 j = f j) (M : MS f A) : MS f2 A := by
  refine ⟨by rw [e 0 (by decide)]; exact M.nq, by rw [e 1 (by decide)]; exact M.nd, by rw [e 2 (by decide)]; exact M.ns, by rw [e 3 (by decide)]; exact M.nr, by rw [e 4 (by decide)]; exact M.wk, by rw [e 5 (by decide)]; exact M.ca, by rw [e 6 (by decide)]; exact M.cm, fun q hq => ?_, fun m q hm hq => ?_, fun m q r a hm hq r0 r1 b0 b1 => ?_, fun i i0 i1 => ?_, fun i i0 i1 => ?_, fun i hi => ?_, fun i hi => ?_, fun i hi => ?_, fun i hi => ?_, fun i hi => ?_, fun i hi => ?_, fun i hi h3 => ?_, fun i q hi hq => ?_, fun r r0 r1 => ?_, fun k k0 k1 => ?_, fun k k0 k1 => ?_⟩
  · have := hq.1
    rw [e _ (by omega)]; exact M.ch q hq
  · have := hq.1
    have := bit1_le hm
    rw [e _ (by omega)]; exact M.gb m q hm hq
  · have := hq.1
    have := bit1_le hm
    rw [e _ (by omega)]; exact M.wt m q r a hm hq r0 r1 b0 b1
  · rw [e _ (by omega)]; exact M.dx i i0 i1
  · rw [e _ (by omega)]; exact M.dy i i0 i1
  · have := hi.1
    rw [e _ (by omega)]; exact M.ask i hi
  · have := hi.1
    rw [e _ (by omega)]; exact M.dr i hi
  · have := hi.1
    rw [e _ (by omega)]; exact M.fr i hi
  · have := hi.1
    rw [e _ (by omega)]; exact M.tt i hi
  · have := hi.1
    rw [e _ (by omega)]; exact M.cd i hi
  · have := hi.1
    rw [e _ (by omega)]; exact M.tr i hi
  · have := hi.1
    rw [e _ (by omega)]; exact M.hf i hi h3
  · have := hi.1
    have := hq.1
    rw [e _ (by omega)]; exact M.pa i q hi hq
  · rw [e _ (by omega)]; exact M.rs r r0 r1
  · rw [e _ (by omega)]; exact M.op k k0 k1
  · rw [e _ (by omega)]; exact M.nm k k0 k1
theorem CR.sheet {g : KG} {h h2 : KH} {W : Wd} (C : CR g h W) {ns : Int} {ask dr fr tt pa cd tr hf : Int → Int} (O : (W.cur.shs ns ask dr fr tt pa cd tr hf).Ok) (e : ∀ a, 0 ≤ a → a < 138 → a ≠ 0 → a ≠ 6 → (a < 23 ∨ 30 < a) → h2 a = h a) (e6 : ∀ j, j ≠ 2 → j ≠ 11 → h2 6 j = h 6 j) (e0 : ∀ j, j ≠ 11 → h2 0 j = h 0 j) (hns : h2 6 2 = ns)
    (a1 : ∀ i, 0 ≤ i → i < ns → h2 23 i = ask i) (a2 : ∀ i, 0 ≤ i → i < ns → h2 24 i = dr i) (a3 : ∀ i, 0 ≤ i → i < ns → h2 25 i = fr i) (a4 : ∀ i, 0 ≤ i → i < ns → h2 26 i = tt i) (a5 : ∀ i, 0 ≤ i → i < ns → h2 27 i = pa i) (a6 : ∀ i, 0 ≤ i → i < ns → h2 28 i = cd i) (a7 : ∀ i, 0 ≤ i → i < ns → h2 29 i = tr i) (a8 : ∀ i, 0 ≤ i → i < ns → tr i = 3 → h2 30 i = hf i) : CR g h2 (W.cu (W.cur.shs ns ask dr fr tt pa cd tr hf) (h2 0 11)) := by
  obtain ⟨l, r, l2, r2, C1, C2, C3, C4, C5, C6, C7⟩ := C
  have hl := C7.l
  have hr := C7.r
  have S := C7.S
  refine ⟨l, r, l2, r2, C1.keep (fun a _ _ _ _ _ _ _ _ _ => e a (by omega) (by omega) (by omega) (by omega) (by omega)), ⟨C2.k35, by rw [e 35 (by decide) (by decide) (by decide) (by decide) (by decide)]; exact C2.p35⟩, ?_, C4.keep (fun a _ _ => e a (by omega) (by omega) (by omega) (by omega) (by omega)), ?_, C6.keep (fun a _ _ => e a (by omega) (by omega) (by omega) (by omega) (by omega)), ?_⟩
  · exact ⟨C3.k0, by rw [e0 0 (by decide)]; exact C3.p0, by rw [e0 1 (by decide)]; exact C3.p1, by rw [e0 2 (by decide)]; exact C3.p2, by rw [e0 3 (by decide)]; exact C3.p3, by rw [e0 4 (by decide)]; exact C3.p4, by rw [e0 5 (by decide)]; exact C3.p5, by rw [e0 6 (by decide)]; exact C3.p6, by rw [e0 7 (by decide)]; exact C3.p7, by rw [e0 8 (by decide)]; exact C3.p8, by rw [e0 9 (by decide)]; exact C3.p9, by rw [e0 10 (by decide)]; exact C3.p10, rfl, by rw [e0 12 (by decide)]; exact C3.top, by rw [e0 13 (by decide)]; exact C3.bot, by rw [e0 14 (by decide)]; exact C3.nmk, C3.nm3, by rw [e0 17 (by decide)]; exact C3.hm, by rw [e0 16 (by decide)]; exact C3.hd, by rw [e0 18 (by decide)]; exact C3.fs⟩
  · have y2 := e 2 (by decide) (by decide) (by decide) (by decide) (by decide)
    have y3 := e 3 (by decide) (by decide) (by decide) (by decide) (by decide)
    exact ⟨by rw [y2]; exact C5.fed, C5.f7, by rw [y3]; exact C5.tp, by rw [e0 15 (by decide), y2]; exact C5.fa, C5.tb⟩
  · have er2 := e (r2 + 1) (by omega) (by omega) (by omega) (by omega) (by omega)
    have L : LR g h2 l W.cur := S.L.keep (fun a _ _ => e a (by omega) (by omega) (by omega) (by omega) (by omega))
    have R : RR g h2 r W.cur := S.R.keep (fun a _ _ => e a (by omega) (by omega) (by omega) (by omega) (by omega))
    have K : SK g h2 6 := ⟨S.k0, S.k17, S.l17, S.k18, S.l18, S.k19, S.l19, S.k20, S.l20, S.k21, S.l21, S.k22, S.l22, S.k23, S.l23, S.k24, S.l24, by rw [e6 3 (by decide) (by decide)]; exact S.p3, by rw [e6 4 (by decide) (by decide)]; exact S.p4, by rw [e6 5 (by decide) (by decide)]; exact S.p5, by rw [e6 6 (by decide) (by decide)]; exact S.p6, by rw [e6 7 (by decide) (by decide)]; exact S.p7, by rw [e6 8 (by decide) (by decide)]; exact S.p8, by rw [e6 9 (by decide) (by decide)]; exact S.p9, by rw [e6 10 (by decide) (by decide)]; exact S.p10⟩
    exact ⟨hl, hr, ⟨K, by rw [e6 0 (by decide) (by decide)]; exact S.pl, by rw [e6 1 (by decide) (by decide)]; exact S.pr, L, R, hns, fun i hi => a1 i hi.1 hi.2, fun i hi => a2 i hi.1 hi.2, fun i hi => a3 i hi.1 hi.2, fun i hi => a4 i hi.1 hi.2, fun i hi => a5 i hi.1 hi.2, fun i hi => a6 i hi.1 hi.2, fun i hi => a7 i hi.1 hi.2, fun i hi h3 => a8 i hi.1 hi.2 h3⟩, O, C7.lk.keep (fun a _ _ => e a (by omega) (by omega) (by omega) (by omega) (by omega)), C7.tl.keep (fun a _ _ => e a (by omega) (by omega) (by omega) (by omega) (by omega)), C7.tm.keep (fun a _ _ => e a (by omega) (by omega) (by omega) (by omega) (by omega)), C7.rk.keep (fun a _ _ => e a (by omega) (by omega) (by omega) (by omega) (by omega)), by rw [er2]; exact C7.rz⟩
theorem MR.sheet {g : KG} {h h2 : KH} {W : Wd} (C : MR g h W) (O0 : W.cur.Ok) {ns : Int} {ask dr fr tt pa cd tr hf : Int → Int} (hn : ns ≤ 16) (e : ∀ a, 140 ≤ a → a < 155 → (a < 147 ∨ a = 152) → h2 a = h a) (e0 : ∀ j, (j ≠ 1 ∧ j ≠ 26 ∧ j ≠ 27 ∧ j ≠ 30 ∧ j ≠ 39) → h2 138 j = h 138 j) (ea : ∀ j, ((j < 250 ∧ j ≠ 2) ∨ 458 ≤ j) → h2 139 j = h 139 j) (hns : h2 139 2 = ns)
    (a1 : ∀ i, 0 ≤ i → i < ns → h2 139 (250 + 13 * i + 0) = ask i) (a2 : ∀ i, 0 ≤ i → i < ns → h2 139 (250 + 13 * i + 1) = dr i) (a3 : ∀ i, 0 ≤ i → i < ns → h2 139 (250 + 13 * i + 2) = fr i) (a4 : ∀ i, 0 ≤ i → i < ns → h2 139 (250 + 13 * i + 3) = tt i) (a6 : ∀ i, 0 ≤ i → i < ns → h2 139 (250 + 13 * i + 4) = cd i) (a7 : ∀ i, 0 ≤ i → i < ns → h2 139 (250 + 13 * i + 5) = tr i) (a8 : ∀ i, 0 ≤ i → i < ns → tr i = 3 → h2 139 (250 + 13 * i + 6) = hf i) (a5 : ∀ i q, 0 ≤ i → i < ns → 0 ≤ q → q < W.cur.nq → h2 139 (250 + 13 * i + 7 + q) = dg (pa i) q) : MR g h2 (W.cu (W.cur.shs ns ask dr fr tt pa cd tr hf) (h2 138 1)) := by
  obtain ⟨K, X, D⟩ := C
  have M := D.cur
  have hq6 := O0.nq
  have hd6 := O0.nd
  refine ⟨K.keep (fun j hj => e0 j (by omega)), ?_, ?_⟩
  · exact ⟨rfl, by rw [e0 2 (by decide)]; exact X.top, by rw [e0 3 (by decide)]; exact X.bot, by rw [e0 9 (by decide)]; exact X.fed, by rw [e0 15 (by decide)]; exact X.fk, by rw [e0 16 (by decide)]; exact X.fp, by rw [e0 35 (by decide)]; exact X.hm, by rw [e0 38 (by decide)]; exact X.fs, by rw [e0 40 (by decide)]; exact X.nmk⟩
  · have MM : MS (h2 139) (W.cur.shs ns ask dr fr tt pa cd tr hf) := by
      refine ⟨by rw [ea 0 (by decide)]; exact M.nq, by rw [ea 1 (by decide)]; exact M.nd, hns, by rw [ea 3 (by decide)]; exact M.nr, by rw [ea 4 (by decide)]; exact M.wk, by rw [ea 5 (by decide)]; exact M.ca, by rw [ea 6 (by decide)]; exact M.cm, fun q hq => ?_, fun m q hm hq => ?_, fun m q r a hm hq r0 r1 b0 b1 => ?_, fun i i0 i1 => ?_, fun i i0 i1 => ?_, fun i hi => a1 i hi.1 hi.2, fun i hi => a2 i hi.1 hi.2, fun i hi => a3 i hi.1 hi.2, fun i hi => a4 i hi.1 hi.2, fun i hi => a6 i hi.1 hi.2, fun i hi => a7 i hi.1 hi.2, fun i hi h3 => a8 i hi.1 hi.2 h3, fun i q hi hq => a5 i q hi.1 hi.2 hq.1 hq.2, fun r r0 r1 => ?_, fun k k0 k1 => ?_, fun k k0 k1 => ?_⟩
      · have q0 : 0 ≤ q := hq.1
        have q1 : q < W.cur.nq := hq.2
        rw [ea _ (by omega)]; exact M.ch q hq
      · have q0 : 0 ≤ q := hq.1
        have q1 : q < W.cur.nq := hq.2
        have := bit1_le hm
        rw [ea _ (by omega)]; exact M.gb m q hm hq
      · have q0 : 0 ≤ q := hq.1
        have q1 : q < W.cur.nq := hq.2
        have h1 := bit1_le hm
        have h2 := (O0.rows hm hq).2
        have h3 := O0.ch q hq
        have r1 : r < W.cur.rows m q := r1
        have b1 : a < W.cur.ch q := b1
        rw [ea _ (by omega)]; exact M.wt m q r a hm hq r0 r1 b0 b1
      · have i1 : i < W.cur.nd := i1
        rw [ea _ (by omega)]; exact M.dx i i0 i1
      · have i1 : i < W.cur.nd := i1
        rw [ea _ (by omega)]; exact M.dy i i0 i1
      · rw [ea _ (by omega)]; exact M.rs r r0 r1
      · rw [ea _ (by omega)]; exact M.op k k0 k1
      · rw [ea _ (by omega)]; exact M.nm k k0 k1
    refine ⟨by rw [e 141 (by decide) (by decide) (by decide)]; exact D.tm, by rw [e 140 (by decide) (by decide) (by decide)]; exact D.ts, by rw [e 142 (by decide) (by decide) (by decide)]; exact D.tv, by rw [e 143 (by decide) (by decide) (by decide)]; exact D.tp, by rw [e 152 (by decide) (by decide) (by decide)]; exact D.hd, MM, fun i h0 h1 => ?_⟩
    exact (D.mk i h0 h1).keep (fun j hj => ea _ (by omega))
/-! card -/
def St.card (A : St) (s c : Int) : St := A.shs A.ns A.ask A.dr A.fr A.tt A.pa (kset A.cd s c) A.tr A.hf
theorem St.Ok.card {A : St} (O : A.Ok) {s c : Int} (hc : 0 ≤ c ∧ c ≤ 2) : (A.card s c).Ok := by
  refine ⟨O.nq, O.nd, O.ns, O.nr, O.wk, O.ca, O.cm, O.ch, O.gb, O.wt, O.ws, O.dx, O.dy, O.ask, O.dr, O.fr, O.tt, O.pa, fun i hi => ?_, O.tr, O.hf, O.rs0, O.rs, O.rsm, O.op, O.dp⟩
  show 0 ≤ kset A.cd s c i ∧ kset A.cd s c i ≤ 2
  unfold kset
  split
  · exact hc
  · exact O.cd i hi
def Wd.card (W : Wd) (s c : Int) : Wd × Int := if (0 ≤ s ∧ s < W.cur.ns) ∧ 0 ≤ c ∧ c ≤ 2 then (W.cu (W.cur.card s c) 0, 1) else (W.st 1, 0)
theorem C107 {W : Wd} {s c : Int} : Cw 107 [xR 0, xI s, xI c] 3 W (W.card s c) := by
  intro g h C d Q hQ
  have C0 := C
  obtain ⟨l, r, l2, r2, C1, C2, C3, C4, C5, C6, C7⟩ := C
  have hn2 := C7.O.ns
  rw [E107, ga C3.k0, S143 C3 C7]
  have no : ¬ ((0 ≤ s ∧ s < W.cur.ns) ∧ 0 ≤ c ∧ c ≤ 2) → Rn (d + 2) 107 20 [xR 0, xI s, xI c] [] g h Q := by
    intro z
    unfold Wd.card at hQ
    rw [if_neg z] at hQ
    simp only [E107, B107_5, B107_17, B107_20, B107_25, B107_40, o1, o0, List.cons_append, List.nil_append, ite_not, bzF, bzT, if_true, if_false, ↓reduceIte, Int.reduceEq, Int.reduceLE, Int.reduceLT, Int.reduceNeg, ne_eq, not_true_eq_false, not_false_eq_true, and_self, and_true, true_and, and_false, false_and, eq_self, C3.k0, C3.p4, C7.S.k0, C7.S.pl, C7.S.pr, C7.S.ns, C7.S.L.k0, C7.S.L.p2, C7.S.L.p3, C7.S.L.p4, C7.S.L.k2, C7.S.L.l2, C7.S.L.nq, C7.S.L.nd, C7.S.L.wk, C7.S.L.ca, C7.S.L.cm, C7.S.R.k0, C7.S.R.nr, C7.S.L.tl.k0, C7.S.L.tm.k0, true_and, S133 (k := C3.k0), S134 (k := C3.k0), S135 (k := C3.k0), S136 (k := C3.k0), g01]
    exact cst C0 hQ
  by_cases hs : 0 ≤ s ∧ s < W.cur.ns
  · rw [bzt hs]
    simp only [B107_5, o1, o0, List.cons_append, List.nil_append, ite_not, bzF, bzT, if_true, if_false, ↓reduceIte, Int.reduceEq, Int.reduceLE, Int.reduceLT, Int.reduceNeg, ne_eq, not_true_eq_false, not_false_eq_true, and_self, and_true, true_and, and_false, false_and, eq_self, S146]
    by_cases hc : 0 ≤ c ∧ c ≤ 2
    · rw [bzt hc]
      have S := C7.S
      unfold Wd.card at hQ
      rw [if_pos ⟨hs, hc⟩] at hQ
      simp (disch := omega) only [E107, B107_5, B107_17, B107_20, B107_25, B107_40, o1, o0, List.cons_append, List.nil_append, ite_not, bzF, bzT, if_true, if_false, ↓reduceIte, Int.reduceEq, Int.reduceLE, Int.reduceLT, Int.reduceNeg, ne_eq, not_true_eq_false, not_false_eq_true, and_self, and_true, true_and, and_false, false_and, eq_self, C3.k0, C3.p4, C7.S.k0, C7.S.pl, C7.S.pr, C7.S.ns, C7.S.L.k0, C7.S.L.p2, C7.S.L.p3, C7.S.L.p4, C7.S.L.k2, C7.S.L.l2, C7.S.L.nq, C7.S.L.nd, C7.S.L.wk, C7.S.L.ca, C7.S.L.cm, C7.S.R.k0, C7.S.R.nr, C7.S.L.tl.k0, C7.S.L.tm.k0, true_and, S133 (k := C3.k0), S134 (k := C3.k0), S135 (k := C3.k0), S136 (k := C3.k0), g11, S.n8, S.m28, S.w28, ga]
      have U := C0.sheet (h2 := hset (hset h 28 s c) 0 11 0) (ns := W.cur.ns) (ask := W.cur.ask) (dr := W.cur.dr) (fr := W.cur.fr) (tt := W.cur.tt) (pa := W.cur.pa) (cd := kset W.cur.cd s c) (tr := W.cur.tr) (hf := W.cur.hf) (C7.O.card (s := s) hc) (fun a _ _ _ _ _ => by rw [hset_a _ _ _ (by omega), hset_a _ _ _ (by omega)]) (fun j _ _ => by rw [hset_a _ _ _ (by decide), hset_a _ _ _ (by decide)]) (fun j hj => by rw [hset_i _ _ hj, hset_a _ _ _ (by decide)]) (by rw [hset_a _ _ _ (by decide), hset_a _ _ _ (by decide)]; exact S.ns)
        (fun i i0 i1 => by rw [hset_a _ _ _ (by decide), hset_a _ _ _ (by decide)]; exact S.v23 i ⟨i0, i1⟩) (fun i i0 i1 => by rw [hset_a _ _ _ (by decide), hset_a _ _ _ (by decide)]; exact S.v24 i ⟨i0, i1⟩) (fun i i0 i1 => by rw [hset_a _ _ _ (by decide), hset_a _ _ _ (by decide)]; exact S.v25 i ⟨i0, i1⟩) (fun i i0 i1 => by rw [hset_a _ _ _ (by decide), hset_a _ _ _ (by decide)]; exact S.v26 i ⟨i0, i1⟩) (fun i i0 i1 => by rw [hset_a _ _ _ (by decide), hset_a _ _ _ (by decide)]; exact S.v27 i ⟨i0, i1⟩)
        (fun i i0 i1 => by
          rw [hset_a _ _ _ (by decide)]
          unfold kset
          by_cases hi : i = s
          · rw [if_pos hi, hi, hset_e]
          · rw [if_neg hi, hset_i _ _ hi]; exact S.v28 i ⟨i0, i1⟩) (fun i i0 i1 => by rw [hset_a _ _ _ (by decide), hset_a _ _ _ (by decide)]; exact S.v29 i ⟨i0, i1⟩) (fun i i0 i1 h3 => by rw [hset_a _ _ _ (by decide), hset_a _ _ _ (by decide)]; exact S.v30 i ⟨i0, i1⟩ h3)
      rw [hset_e] at U
      exact hQ _ U (fun a ha => by rw [hset_a _ _ _ (by omega), hset_a _ _ _ (by omega)])
    · rw [bzf hc]
      simp only [B107_17, o1, o0, List.cons_append, List.nil_append, ite_not, bzF, bzT, if_true, if_false, ↓reduceIte, Int.reduceEq, Int.reduceLE, Int.reduceLT, Int.reduceNeg, ne_eq, not_true_eq_false, not_false_eq_true, and_self, and_true, true_and, and_false, false_and, eq_self]
      exact no (fun z => hc z.2)
  · rw [bzf hs]
    simp only [B107_5, o1, o0, List.cons_append, List.nil_append, ite_not, bzF, bzT, if_true, if_false, ↓reduceIte, Int.reduceEq, Int.reduceLE, Int.reduceLT, Int.reduceNeg, ne_eq, not_true_eq_false, not_false_eq_true, and_self, and_true, true_and, and_false, false_and, eq_self]
    exact no (fun z => hs z.1)
