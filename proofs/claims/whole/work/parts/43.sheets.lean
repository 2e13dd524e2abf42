/-! the world with other sheets -/
def St.shs (A : St) (ns : Int) (ask dr fr tt pa cd tr hf : Int → Int) : St := St.mk_ A.nq A.nd ns A.nr A.wk A.ca A.cm A.ch A.gb A.wt A.dx A.dy ask dr fr tt pa cd tr hf A.rs A.op A.nm A.dp
def Wd.cu (W : Wd) (A : St) (s : Int) : Wd := Wd.mk_ A W.mks W.nmk W.ts W.tm W.tv W.tp W.fed s W.top W.bot W.fk W.fp W.hm W.hd W.fs
theorem CR.sheet {g : KG} {h h2 : KH} {W : Wd} (C : CR g h W) {ns : Int} {ask dr fr tt pa cd tr hf : Int → Int} (O : (W.cur.shs ns ask dr fr tt pa cd tr hf).Ok) (e : ∀ a, 0 ≤ a → a < 138 → a ≠ 0 → a ≠ 6 → (a < 23 ∨ 30 < a) → h2 a = h a) (e6 : ∀ j, j ≠ 2 → j ≠ 11 → h2 6 j = h 6 j) (e0 : ∀ j, j ≠ 11 → h2 0 j = h 0 j) (hns : h2 6 2 = ns)
    (a1 : ∀ i, 0 ≤ i → i < ns → h2 23 i = ask i) (a2 : ∀ i, 0 ≤ i → i < ns → h2 24 i = dr i) (a3 : ∀ i, 0 ≤ i → i < ns → h2 25 i = fr i) (a4 : ∀ i, 0 ≤ i → i < ns → h2 26 i = tt i) (a5 : ∀ i, 0 ≤ i → i < ns → h2 27 i = pa i) (a6 : ∀ i, 0 ≤ i → i < ns → h2 28 i = cd i) (a7 : ∀ i, 0 ≤ i → i < ns → h2 29 i = tr i) (a8 : ∀ i, 0 ≤ i → i < ns → tr i = 3 → h2 30 i = hf i) : CR g h2 (W.cu (W.cur.shs ns ask dr fr tt pa cd tr hf) (h2 0 11)) := by
  obtain ⟨l, r, l2, r2, C1, C2, C3, C4, C5, C6, C7⟩ := C
  have hl := C7.l
  have hr := C7.r
  have S := C7.S
  refine ⟨l, r, l2, r2, C1.keep (fun a _ _ _ _ _ _ _ _ _ => e a (by omega) (by omega) (by omega) (by omega) (by omega)), ⟨C2.k35, by rw [e 35 (by decide) (by decide) (by decide) (by decide) (by decide)]; exact C2.p35⟩, ?_, C4.keep (fun a _ _ => e a (by omega) (by omega) (by omega) (by omega) (by omega)), ?_, C6.keep (fun a _ _ => e a (by omega) (by omega) (by omega) (by omega) (by omega)), ?_⟩
  · exact ⟨C3.k0, by rw [e0 0 (by decide)]; exact C3.p0, by rw [e0 1 (by decide)]; exact C3.p1, by rw [e0 2 (by decide)]; exact C3.p2, by rw [e0 3 (by decide)]; exact C3.p3, by rw [e0 4 (by decide)]; exact C3.p4, by rw [e0 5 (by decide)]; exact C3.p5, by rw [e0 6 (by decide)]; exact C3.p6, by rw [e0 7 (by decide)]; exact C3.p7, by rw [e0 8 (by decide)]; exact C3.p8, by rw [e0 9 (by decide)]; exact C3.p9, by rw [e0 10 (by decide)]; exact C3.p10, rfl, by rw [e0 12 (by decide)]; exact C3.top, by rw [e0 13 (by decide)]; exact C3.bot, by rw [e0 14 (by decide)]; exact C3.nmk, C3.nm3, by rw [e0 17 (by decide)]; exact C3.hm, by rw [e0 16 (by decide)]; exact C3.hd, by rw [e0 18 (by decide)]; exact C3.fs⟩
  · have y2 := e 2 (by decide) (by decide) (by decide) (by decide) (by decide)
    have y3 := e 3 (by decide) (by decide) (by decide) (by decide) (by decide)
    exact ⟨by rw [y2]; exact C5.fed, C5.f7, by rw [y3]; exact C5.tp, by rw [e0 15 (by decide), y2]; exact C5.fa⟩
  · have er2 := e (r2 + 1) (by omega) (by omega) (by omega) (by omega) (by omega)
    have L : LR g h2 l W.cur := S.L.keep (fun a _ _ => e a (by omega) (by omega) (by omega) (by omega) (by omega))
    have R : RR g h2 r W.cur := S.R.keep (fun a _ _ => e a (by omega) (by omega) (by omega) (by omega) (by omega))
    have K : SK g h2 6 := ⟨S.k0, S.k17, S.l17, S.k18, S.l18, S.k19, S.l19, S.k20, S.l20, S.k21, S.l21, S.k22, S.l22, S.k23, S.l23, S.k24, S.l24, by rw [e6 3 (by decide) (by decide)]; exact S.p3, by rw [e6 4 (by decide) (by decide)]; exact S.p4, by rw [e6 5 (by decide) (by decide)]; exact S.p5, by rw [e6 6 (by decide) (by decide)]; exact S.p6, by rw [e6 7 (by decide) (by decide)]; exact S.p7, by rw [e6 8 (by decide) (by decide)]; exact S.p8, by rw [e6 9 (by decide) (by decide)]; exact S.p9, by rw [e6 10 (by decide) (by decide)]; exact S.p10⟩
    exact ⟨hl, hr, ⟨K, by rw [e6 0 (by decide) (by decide)]; exact S.pl, by rw [e6 1 (by decide) (by decide)]; exact S.pr, L, R, hns, fun i hi => a1 i hi.1 hi.2, fun i hi => a2 i hi.1 hi.2, fun i hi => a3 i hi.1 hi.2, fun i hi => a4 i hi.1 hi.2, fun i hi => a5 i hi.1 hi.2, fun i hi => a6 i hi.1 hi.2, fun i hi => a7 i hi.1 hi.2, fun i hi h3 => a8 i hi.1 hi.2 h3⟩, O, C7.lk.keep (fun a _ _ => e a (by omega) (by omega) (by omega) (by omega) (by omega)), C7.tl.keep (fun a _ _ => e a (by omega) (by omega) (by omega) (by omega) (by omega)), C7.tm.keep (fun a _ _ => e a (by omega) (by omega) (by omega) (by omega) (by omega)), C7.rk.keep (fun a _ _ => e a (by omega) (by omega) (by omega) (by omega) (by omega)), by rw [er2]; exact C7.rz⟩
theorem MR.sheet {g : KG} {h h2 : KH} {W : Wd} (C : MR g h W) (O0 : W.cur.Ok) {ns : Int} {ask dr fr tt pa cd tr hf : Int → Int} (hn : ns ≤ 16) (e : ∀ a, 140 ≤ a → a < 155 → (a < 147 ∨ a = 152) → h2 a = h a) (e0 : ∀ j, (j ≠ 1 ∧ j ≠ 26 ∧ j ≠ 27 ∧ j ≠ 30 ∧ j ≠ 39) → h2 138 j = h 138 j) (ea : ∀ j, ((j < 250 ∧ j ≠ 2) ∨ 458 ≤ j) → h2 139 j = h 139 j) (hns : h2 139 2 = ns)
    (a1 : ∀ i, 0 ≤ i → i < ns → h2 139 (250 + 13 * i + 0) = ask i) (a2 : ∀ i, 0 ≤ i → i < ns → h2 139 (250 + 13 * i + 1) = dr i) (a3 : ∀ i, 0 ≤ i → i < ns → h2 139 (250 + 13 * i + 2) = fr i) (a4 : ∀ i, 0 ≤ i → i < ns → h2 139 (250 + 13 * i + 3) = tt i) (a6 : ∀ i, 0 ≤ i → i < ns → h2 139 (250 + 13 * i + 4) = cd i) (a7 : ∀ i, 0 ≤ i → i < ns → h2 139 (250 + 13 * i + 5) = tr i) (a8 : ∀ i, 0 ≤ i → i < ns → tr i = 3 → h2 139 (250 + 13 * i + 6) = hf i) (a5 : ∀ i q, 0 ≤ i → i < ns → 0 ≤ q → q < W.cur.nq → h2 139 (250 + 13 * i + 7 + q) = dg (pa i) q) : MR g h2 (W.cu (W.cur.shs ns ask dr fr tt pa cd tr hf) (h2 138 1)) := by
  obtain ⟨K, X, D⟩ := C
  have M := D.cur
  have hq6 := O0.nq
  have hd6 := O0.nd
  refine ⟨K.keep (fun j hj => e0 j (by omega)), ?_, ?_⟩
  · exact ⟨rfl, by rw [e0 2 (by decide)]; exact X.top, by rw [e0 3 (by decide)]; exact X.bot, by rw [e0 9 (by decide)]; exact X.fed, by rw [e0 15 (by decide)]; exact X.fk, by rw [e0 16 (by decide)]; exact X.fp, by rw [e0 35 (by decide)]; exact X.hm, by rw [e0 38 (by decide)]; exact X.fs, by rw [e0 40 (by decide)]; exact X.nmk⟩
  · have MM : MS (h2 139) (W.cur.shs ns ask dr fr tt pa cd tr hf) := by
      refine ⟨by rw [ea 0 (by decide)]; exact M.nq, by rw [ea 1 (by decide)]; exact M.nd, hns, by rw [ea 3 (by decide)]; exact M.nr, by rw [ea 4 (by decide)]; exact M.wk, by rw [ea 5 (by decide)]; exact M.ca, by rw [ea 6 (by decide)]; exact M.cm, fun q hq => ?_, fun m q hm hq => ?_, fun m q r a hm hq r0 r1 b0 b1 => ?_, fun i i0 i1 => ?_, fun i i0 i1 => ?_, fun i hi => a1 i hi.1 hi.2, fun i hi => a2 i hi.1 hi.2, fun i hi => a3 i hi.1 hi.2, fun i hi => a4 i hi.1 hi.2, fun i hi => a6 i hi.1 hi.2, fun i hi => a7 i hi.1 hi.2, fun i hi h3 => a8 i hi.1 hi.2 h3, fun i q hi hq => a5 i q hi.1 hi.2 hq.1 hq.2, fun r r0 r1 => ?_, fun k k0 k1 => ?_, fun k k0 k1 => ?_⟩
      · have q0 : 0 ≤ q := hq.1
        have q1 : q < W.cur.nq := hq.2
        rw [ea _ (by omega)]; exact M.ch q hq
      · have q0 : 0 ≤ q := hq.1
        have q1 : q < W.cur.nq := hq.2
        have := bit1_le hm
        rw [ea _ (by omega)]; exact M.gb m q hm hq
      · have q0 : 0 ≤ q := hq.1
        have q1 : q < W.cur.nq := hq.2
        have h1 := bit1_le hm
        have h2 := (O0.rows hm hq).2
        have h3 := O0.ch q hq
        have r1 : r < W.cur.rows m q := r1
        have b1 : a < W.cur.ch q := b1
        rw [ea _ (by omega)]; exact M.wt m q r a hm hq r0 r1 b0 b1
      · have i1 : i < W.cur.nd := i1
        rw [ea _ (by omega)]; exact M.dx i i0 i1
      · have i1 : i < W.cur.nd := i1
        rw [ea _ (by omega)]; exact M.dy i i0 i1
      · rw [ea _ (by omega)]; exact M.rs r r0 r1
      · rw [ea _ (by omega)]; exact M.op k k0 k1
      · rw [ea _ (by omega)]; exact M.nm k k0 k1
    refine ⟨by rw [e 141 (by decide) (by decide) (by decide)]; exact D.tm, by rw [e 140 (by decide) (by decide) (by decide)]; exact D.ts, by rw [e 142 (by decide) (by decide) (by decide)]; exact D.tv, by rw [e 143 (by decide) (by decide) (by decide)]; exact D.tp, by rw [e 152 (by decide) (by decide) (by decide)]; exact D.hd, MM, fun i h0 h1 => ?_⟩
    have m := D.mk i h0 h1
    sorry
