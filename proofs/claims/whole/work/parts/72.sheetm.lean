/-! sheet on the model's side -/
theorem C209 {W : Wd} (G : W.Rg) {t : Int} : Mw 209 [xR 138, xI t] 3 W (W.sheet t) := by
  intro g h C O d Q hQ
  have K := C.1
  have M := C.2.2.cur
  have h6 := O.nq
  have h16 := O.ns
  have hd := O.nd
  have g0 : gK g 139 = 20 ∧ 0 ≤ (0 : Int) ∧ (0 : Int) < gL g 139 := ⟨K.kat, by decide, by rw [K.lat]; decide⟩
  have g2 : gK g 139 = 20 ∧ 0 ≤ (2 : Int) ∧ (2 : Int) < gL g 139 := ⟨K.kat, by decide, by rw [K.lat]; decide⟩
  unfold Wd.sheet at hQ
  rw [E209, S164]
  by_cases ht : 0 ≤ t ∧ t ≤ 3
  · have T := G.1 t ht.1 (by omega)
    have gm : gK g 141 = 20 ∧ 0 ≤ t ∧ t < gL g 141 := ⟨K.k141, ht.1, by rw [K.l141]; omega⟩
    rw [if_pos ht] at hQ
    rw [bzt ht, o1, List.cons_append, List.nil_append, B209_4, if_pos (by decide), ga K.k0, K.p5, ga gm, C.2.2.tm t ht.1 (by omega)]
    by_cases hm : W.tm t = -1
    · rw [if_pos hm] at hQ
      rw [if_neg (fun z => z hm), ga K.k0]
      simp only [S160 (k := K.k0), S161 (k := K.k0), S162 (k := K.k0), o1, o0, List.cons_append, List.nil_append, B209_28]
      exact mst C hQ
    · rw [if_neg hm] at hQ
      rw [if_pos hm, ga K.k0, K.pat, ga g0, ga K.k0, ga gm, M.nq, w32_id (by omega) (by omega)]
      by_cases h4 : 4 + W.cur.nq ≤ W.tm t
      · rw [if_pos h4] at hQ
        have hv : ∀ p, 0 ≤ p → p < 4 + W.cur.nq → h 142 (60 * t + p) = W.tv t p := fun p p0 p1 => C.2.2.tv t p ht.1 (by omega) p0 (by omega)
        have gl : ∀ p, 0 ≤ p → p < 4 + W.cur.nq → gK g 142 = 21 ∧ 0 ≤ 60 * t + p ∧ 60 * t + p < gL g 142 := fun p p0 p1 => ⟨K.k142, by omega, by rw [K.l142]; omega⟩
        have hv0 := hv 0 (by omega) (by omega)
        have gl0 := gl 0 (by omega) (by omega)
        rw [Int.add_zero] at hv0 gl0
        -- the end
        have last : ∀ vs : Int, vs = bz (W.cur.gq (W.tv t) W.cur.nq.toNat) → ∀ a5 : Int, W.cur.nq ≤ a5 → Rn (d + 2) 209 141 [xR 138, xI t, xI W.cur.nq, xI (60 * t), xI vs, xI a5, xU] [] g h Q := by
          intro vs hvs a5 ha5
          rw [B209_141, if_pos ha5, hvs]
          by_cases hg : W.cur.gq (W.tv t) W.cur.nq.toNat
          · rw [if_pos hg] at hQ
            rw [bzt hg, if_pos (by decide), ga K.k0, K.pat, ga g2, M.ns]
            by_cases hn : W.cur.ns < 16
            · rw [if_pos hn] at hQ
              have g9 := gq_0 hg
              have gp : ∀ j, 0 ≤ j → j < 4500 → gK g 139 = 20 ∧ 0 ≤ (139 : Int) ∧ 0 ≤ j ∧ j < gL g 139 := fun j j0 j1 => ⟨K.kat, by decide, j0, by rw [K.lat]; exact j1⟩
              rw [if_pos (by omega), ga K.k0, ga g2, w32_id (x := 13 * W.cur.ns) (by omega) (by omega), w32_id (by omega) (by omega)]
              -- answers
              have e3 : ∀ n q : Nat, q + n = W.cur.nq.toNat → ∀ h1 : KH, (∀ c, c ≠ 139 → h1 c = h c) → (∀ j, (j < 250 + 13 * W.cur.ns ∨ 250 + 13 * W.cur.ns + 13 ≤ j) → h1 139 j = h 139 j) → (∀ k, 0 ≤ k → k < 4 → h1 139 (250 + 13 * W.cur.ns + k) = W.tv t k) → (∀ k, 4 ≤ k → k < 7 → h1 139 (250 + 13 * W.cur.ns + k) = 0) → (∀ k, 0 ≤ k → k < (q : Int) → h1 139 (250 + 13 * W.cur.ns + 7 + k) = W.tv t (4 + k)) → Rn (d + 2) 209 300 [xR 138, xI t, xI W.cur.nq, xI (60 * t), xI 1, xI (250 + 13 * W.cur.ns), xI (q : Int)] [] g h1 Q := by
                intro n
                induction n with
                | zero =>
                  intro q hq h1 f1 f2 f3 f4 f5
                  have y138 : h1 138 = h 138 := f1 138 (by decide)
                  have en : h1 139 2 = W.cur.ns := by rw [f2 2 (by omega)]; exact M.ns
                  have zz : ∀ x, (hset h1 139 2 x) 138 = h 138 := fun x => by rw [hset_a _ _ _ (by decide), y138]
                  rw [B209_300, if_pos (by omega), ga K.k0, y138, K.pat, ga g2, ga (gp 2 (by decide) (by decide)), ga K.k0, zz, K.pat, ga g2, ga K.k0, hset_e, en, w32_id (x := W.cur.ns + 1) (by omega) (by omega), w32_id (by omega) (by omega)]
                  simp only [S160 (k := K.k0), S161 (k := K.k0), S162 (k := K.k0), o1, o0, List.cons_append, List.nil_append, B209_359]
                  rw [show W.cur.ns + 1 - 1 = W.cur.ns by omega]
                  generalize eF : hset (hset h1 139 2 (W.cur.ns + 1)) 138 1 0 = hF
                  have w1 : ∀ j, j ≠ 2 → hF 139 j = h1 139 j := fun j hj => by rw [← eF, hset_a _ _ _ (by decide), hset_i _ _ hj]
                  have w2 : hF 139 2 = W.cur.ns + 1 := by rw [← eF, hset_a _ _ _ (by decide), hset_e]
                  have w3 : ∀ c, c ≠ 138 → c ≠ 139 → hF c = h c := fun c c1 c2 => by rw [← eF, hset_a _ _ _ c1, hset_a _ _ _ c2, f1 c c2]
                  have w4 : ∀ j, j ≠ 1 → hF 138 j = h 138 j := fun j hj => by rw [← eF, hset_i _ _ hj, zz]
                  have w5 : hF 138 1 = 0 := by rw [← eF, hset_e]
                  have old : ∀ i k, 0 ≤ i → i < W.cur.ns → 0 ≤ k → k < 13 → hF 139 (250 + 13 * i + k) = h 139 (250 + 13 * i + k) := fun i k i0 i1 k0 k1 => by rw [w1 _ (by omega), f2 _ (by omega)]
                  have hi : ∀ i, 0 ≤ i → i < W.cur.ns + 1 → i ≠ W.cur.ns → 0 ≤ i ∧ i < W.cur.ns := fun i i0 i1 e => ⟨i0, by omega⟩
                  have cell : ∀ (f : Int → Int) (x i k : Int), 0 ≤ i → i < W.cur.ns + 1 → 0 ≤ k → k < 13 → hF 139 (250 + 13 * W.cur.ns + k) = x → (ins W.cur i → h 139 (250 + 13 * i + k) = f i) → hF 139 (250 + 13 * i + k) = kset f W.cur.ns x i := fun f x i k i0 i1 k0 k1 e1 e2 => by
                    unfold kset
                    by_cases e : i = W.cur.ns
                    · rw [if_pos e, e]; exact e1
                    · have z := hi i i0 i1 e
                      rw [if_neg e, old i k z.1 z.2 k0 k1]; exact e2 z
                  have U := C.sheet (h2 := hF) O (ns := W.cur.ns + 1) (ask := kset W.cur.ask W.cur.ns (W.tv t 0)) (dr := kset W.cur.dr W.cur.ns (W.tv t 1)) (fr := kset W.cur.fr W.cur.ns (W.tv t 2)) (tt := kset W.cur.tt W.cur.ns (W.tv t 3)) (pa := kset W.cur.pa W.cur.ns (St.vrow (W.tv t) W.cur.nq.toNat)) (cd := kset W.cur.cd W.cur.ns 0) (tr := kset W.cur.tr W.cur.ns 0) (hf := W.cur.hf) (by omega) (fun a a0 a1 _ => w3 a (by omega) (by omega)) (fun j hj => w4 j hj.1) (fun j hj => by rw [w1 j (by omega), f2 j (by omega)]) w2
                    (fun i i0 i1 => cell _ _ i 0 i0 i1 (by decide) (by decide) (by rw [w1 _ (by omega)]; exact f3 0 (by decide) (by decide)) (fun z => M.ask i z)) (fun i i0 i1 => cell _ _ i 1 i0 i1 (by decide) (by decide) (by rw [w1 _ (by omega)]; exact f3 1 (by decide) (by decide)) (fun z => M.dr i z)) (fun i i0 i1 => cell _ _ i 2 i0 i1 (by decide) (by decide) (by rw [w1 _ (by omega)]; exact f3 2 (by decide) (by decide)) (fun z => M.fr i z)) (fun i i0 i1 => cell _ _ i 3 i0 i1 (by decide) (by decide) (by rw [w1 _ (by omega)]; exact f3 3 (by decide) (by decide)) (fun z => M.tt i z)) (fun i i0 i1 => cell _ _ i 4 i0 i1 (by decide) (by decide) (by rw [w1 _ (by omega)]; exact f4 4 (by decide) (by decide)) (fun z => M.cd i z)) (fun i i0 i1 => cell _ _ i 5 i0 i1 (by decide) (by decide) (by rw [w1 _ (by omega)]; exact f4 5 (by decide) (by decide)) (fun z => M.tr i z))
                    (fun i i0 i1 h3 => by
                      unfold kset at h3
                      by_cases e : i = W.cur.ns
                      · rw [if_pos e] at h3; exact absurd h3 (by decide)
                      · rw [if_neg e] at h3
                        have z := hi i i0 i1 e
                        rw [old i 6 z.1 z.2 (by decide) (by decide)]; exact M.hf i z h3)
                    (fun i k i0 i1 k0 k1 => by
                      unfold kset
                      by_cases e : i = W.cur.ns
                      · rw [if_pos e, e, w1 _ (by omega), f5 k k0 (by omega)]
                        have y := vrow_d O W.cur.nq.toNat (Nat.le_refl _) hg k.toNat (by omega)
                        have ek : ((k.toNat : Nat) : Int) = k := by omega
                        rw [ek] at y
                        exact y.symm
                      · have z := hi i i0 i1 e
                        rw [if_neg e, Int.add_assoc, old i (7 + k) z.1 z.2 (by omega) (by omega), ← Int.add_assoc]
                        exact M.pa i k z ⟨k0, k1⟩)
                  rw [w5] at U
                  exact hQ hF U (fun a ha => w3 a (by omega) (by omega))
                | succ n ih =>
                  intro q hq h1 f1 f2 f3 f4 f5
                  have e1 : ((q : Int) + 1) = ((q + 1 : Nat) : Int) := by omega
                  have y138 : h1 138 = h 138 := f1 138 (by decide)
                  have va := gq_q hg (j := q) (by omega)
                  have c := O.ch q ⟨by omega, by omega⟩
                  have ev : h1 142 (60 * t + 4 + q) = W.tv t (4 + q) := by rw [f1 142 (by decide), Int.add_assoc]; exact hv _ (by omega) (by omega)
                  rw [B209_300, if_neg (by omega), ga K.k0, ga K.k0, y138, K.p6, K.pat]
                  simp (disch := omega) only [w32_id]
                  rw [ga ⟨K.k142, by omega, by rw [K.l142]; omega⟩, ga (gp _ (by omega) (by omega)), ev, e1]
                  refine ih (q + 1) (by omega) _ (fun c hc => by rw [hset_a _ _ _ hc, f1 c hc]) (fun j hj => by rw [hset_i _ _ (by omega)]; exact f2 j hj) (fun k k0 k1 => by rw [hset_i _ _ (by omega)]; exact f3 k k0 k1) (fun k k0 k1 => by rw [hset_i _ _ (by omega)]; exact f4 k k0 k1) (fun k k0 k1 => ?_)
                  by_cases hk : k = q
                  · rw [hk, hset_e]
                  · rw [hset_i _ _ (by omega)]; exact f5 k k0 (by omega)
              -- four numbers
              have e2 : ∀ n q : Nat, q + n = 4 → ∀ h1 : KH, (∀ c, c ≠ 139 → h1 c = h c) → (∀ j, (j < 250 + 13 * W.cur.ns ∨ 250 + 13 * W.cur.ns + 13 ≤ j) → h1 139 j = h 139 j) → (∀ k, 0 ≤ k → k < (q : Int) → h1 139 (250 + 13 * W.cur.ns + k) = W.tv t k) → (∀ k, 4 ≤ k → k < 7 → h1 139 (250 + 13 * W.cur.ns + k) = 0) → Rn (d + 2) 209 265 [xR 138, xI t, xI W.cur.nq, xI (60 * t), xI 1, xI (250 + 13 * W.cur.ns), xI (q : Int)] [] g h1 Q := by
                intro n
                induction n with
                | zero =>
                  intro q hq h1 f1 f2 f3 f4
                  rw [B209_265, if_pos (by omega)]
                  exact e3 W.cur.nq.toNat 0 (by omega) h1 f1 f2 (fun k k0 k1 => f3 k k0 (by omega)) f4 (fun k k0 k1 => by omega)
                | succ n ih =>
                  intro q hq h1 f1 f2 f3 f4
                  have e1 : ((q : Int) + 1) = ((q + 1 : Nat) : Int) := by omega
                  have y138 : h1 138 = h 138 := f1 138 (by decide)
                  have ev : h1 142 (60 * t + q) = W.tv t q := by rw [f1 142 (by decide)]; exact hv _ (by omega) (by omega)
                  have vr : 0 ≤ W.tv t q ∧ W.tv t q ≤ 1439 := by
                    unfold good at g9
                    have : q = 0 ∨ q = 1 ∨ q = 2 ∨ q = 3 := by omega
                    rcases this with rfl | rfl | rfl | rfl
                    · have := g9.1
                      show 0 ≤ W.tv t 0 ∧ W.tv t 0 ≤ 1439; omega
                    · have := g9.2.1
                      show 0 ≤ W.tv t 1 ∧ W.tv t 1 ≤ 1439; omega
                    · exact g9.2.2.1
                    · have := g9.2.2
                      show 0 ≤ W.tv t 3 ∧ W.tv t 3 ≤ 1439; omega
                  rw [B209_265, if_neg (by omega), ga K.k0, ga K.k0, y138, K.p6, K.pat]
                  simp (disch := omega) only [w32_id (x := 60 * t + (q : Int)), w32_id (x := 250 + 13 * W.cur.ns + (q : Int)), w32_id (x := (q : Int) + 1)]
                  rw [ga ⟨K.k142, by omega, by rw [K.l142]; omega⟩, ga (gp _ (by omega) (by omega)), ev, w32s vr.1 vr.2, e1]
                  refine ih (q + 1) (by omega) _ (fun c hc => by rw [hset_a _ _ _ hc, f1 c hc]) (fun j hj => by rw [hset_i _ _ (by omega)]; exact f2 j hj) (fun k k0 k1 => ?_) (fun k k0 k1 => by rw [hset_i _ _ (by omega)]; exact f4 k k0 k1)
                  by_cases hk : k = q
                  · rw [hk, hset_e]
                  · rw [hset_i _ _ (by omega)]; exact f3 k k0 (by omega)
              have e1 : ∀ n q : Nat, q + n = 13 → ∀ h1 : KH, (∀ c, c ≠ 139 → h1 c = h c) → (∀ j, (j < 250 + 13 * W.cur.ns ∨ 250 + 13 * W.cur.ns + 13 ≤ j) → h1 139 j = h 139 j) → (∀ k, 0 ≤ k → k < (q : Int) → h1 139 (250 + 13 * W.cur.ns + k) = 0) → Rn (d + 2) 209 238 [xR 138, xI t, xI W.cur.nq, xI (60 * t), xI 1, xI (250 + 13 * W.cur.ns), xI (q : Int)] [] g h1 Q := by
                intro n
                induction n with
                | zero =>
                  intro q hq h1 f1 f2 f3
                  rw [B209_238, if_pos (by omega)]
                  exact e2 4 0 (by omega) h1 f1 f2 (fun k k0 k1 => by omega) (fun k k0 k1 => f3 k (by omega) (by omega))
                | succ n ih =>
                  intro q hq h1 f1 f2 f3
                  have e1 : ((q : Int) + 1) = ((q + 1 : Nat) : Int) := by omega
                  have y138 : h1 138 = h 138 := f1 138 (by decide)
                  rw [B209_238, if_neg (by omega), ga K.k0, y138, K.pat, w32_id (by omega) (by omega), w32_id (by omega) (by omega), ga (gp _ (by omega) (by omega)), e1]
                  refine ih (q + 1) (by omega) _ (fun c hc => by rw [hset_a _ _ _ hc, f1 c hc]) (fun j hj => by rw [hset_i _ _ (by omega)]; exact f2 j hj) (fun k k0 k1 => ?_)
                  by_cases hk : k = q
                  · rw [hk, hset_e]
                  · rw [hset_i _ _ (by omega)]; exact f3 k k0 (by omega)
              exact e1 13 0 (by omega) h (fun _ _ => rfl) (fun _ _ => rfl) (fun k k0 k1 => by omega)
            · rw [if_neg hn] at hQ
              rw [if_neg (by omega), ga K.k0]
              simp only [S160 (k := K.k0), S161 (k := K.k0), S162 (k := K.k0), o1, o0, List.cons_append, List.nil_append, B209_219]
              exact mst C hQ
          · rw [if_neg hg] at hQ
            rw [bzf hg, if_neg (by decide), ga K.k0]
            simp only [S160 (k := K.k0), S161 (k := K.k0), S162 (k := K.k0), o1, o0, List.cons_append, List.nil_append, B209_202]
            exact mst C hQ
        have lp : ∀ n q : Nat, q + n = W.cur.nq.toNat → Rn (d + 2) 209 141 [xR 138, xI t, xI W.cur.nq, xI (60 * t), xI (bz (W.cur.gq (W.tv t) q)), xI (q : Int), xU] [] g h Q := by
          intro n
          induction n with
          | zero =>
            intro q hq
            have hq : q = W.cur.nq.toNat := by omega
            exact last _ (by rw [hq]) _ (by omega)
          | succ n ih =>
            intro q hq
            have hi : inq W.cur q := ⟨by omega, by omega⟩
            have e1 : ((q : Int) + 1) = ((q + 1 : Nat) : Int) := by omega
            have c := O.ch q hi
            have nx := ih (q + 1) (by omega)
            rw [bzc (gq_s (A := W.cur) (v := W.tv t) (n := q))] at nx
            rw [B209_141, if_neg (by omega)]
            by_cases hg : W.cur.gq (W.tv t) q
            · have ev : h 142 (60 * t + 4 + q) = W.tv t (4 + q) := by rw [Int.add_assoc]; exact hv _ (by omega) (by omega)
              rw [bzt hg, if_neg (by decide), ga K.k0, K.p6, w32_id (x := 60 * t + 4) (by omega) (by omega), w32_id (x := 60 * t + 4 + (q : Int)) (by omega) (by omega), ga ⟨K.k142, by omega, by rw [K.l142]; omega⟩, ga K.k0, S204 K M O hi, o1, List.cons_append, List.nil_append, B209_170, ev, w64_id (by omega) (by omega), S203, o1, List.cons_append, List.nil_append, B209_176]
              rw [bzc (show (W.cur.gq (W.tv t) q ∧ 0 ≤ W.tv t (4 + q) ∧ W.tv t (4 + q) < W.cur.ch q) ↔ (0 ≤ W.tv t (4 + q) ∧ W.tv t (4 + q) ≤ W.cur.ch q - 1) from ⟨fun z => by omega, fun z => ⟨hg, by omega⟩⟩)] at nx
              by_cases hz : 0 ≤ W.tv t (4 + q) ∧ W.tv t (4 + q) ≤ W.cur.ch q - 1
              · rw [bzt hz] at nx ⊢
                rw [if_neg (by decide), B209_184, w32_id (by omega) (by omega), e1]
                exact nx
              · rw [bzf hz] at nx ⊢
                rw [if_pos rfl, B209_183, B209_184, w32_id (by omega) (by omega), e1]
                exact nx
            · rw [bzf (fun z => hg z.1)] at nx
              rw [bzf hg, if_pos rfl, B209_183, B209_184, w32_id (by omega) (by omega), e1]
              exact nx
        have st := lp W.cur.nq.toNat 0 (by omega)
        have no : ¬ good W.cur (W.tv t) → Rn (d + 2) 209 135 [xR 138, xI t, xI W.cur.nq, xI (60 * t), xU, xU, xU] [] g h Q := by
          intro z
          rw [bzf (fun y => z (gq_z.mp y))] at st
          rw [B209_135, B209_136]
          exact st
        rw [if_pos h4, ga K.k0, K.p6, w32_id (by omega) (by omega), ga gl0, hv0, S202]
        by_cases h0 : 0 ≤ W.tv t 0 ∧ W.tv t 0 ≤ 3
        · rw [bzt h0, o1, List.cons_append, List.nil_append, B209_68, if_neg (by decide), ga K.k0, K.p6, w32_id (by omega) (by omega), ga (gl 1 (by omega) (by omega)), hv 1 (by omega) (by omega), ga K.k0, S201 K M]
          by_cases h1 : 0 ≤ W.tv t 1 ∧ W.tv t 1 < W.cur.nd
          · rw [bzt h1, o1, List.cons_append, List.nil_append, B209_83, if_neg (by decide), ga K.k0, K.p6, w32_id (by omega) (by omega), ga (gl 2 (by omega) (by omega)), hv 2 (by omega) (by omega), S203]
            by_cases h2 : 0 ≤ W.tv t 2 ∧ W.tv t 2 ≤ 1439
            · rw [bzt h2, o1, List.cons_append, List.nil_append, B209_101, if_neg (by decide), ga K.k0, K.p6, w32_id (x := 60 * t + 3) (by omega) (by omega), ga (gl 3 (by omega) (by omega)), ga K.k0, w32_id (x := 60 * t + 2) (by omega) (by omega), ga (gl 2 (by omega) (by omega)), hv 3 (by omega) (by omega), hv 2 (by omega) (by omega), w64_id (by omega) (by omega), S203]
              by_cases h3 : W.tv t 2 + 1 ≤ W.tv t 3 ∧ W.tv t 3 ≤ 1439
              · rw [bzt (gq_z.mpr ⟨h0, h1, h2, h3⟩)] at st
                rw [bzt h3, o1, List.cons_append, List.nil_append, B209_128, if_neg (by decide), B209_136]
                exact st
              · rw [bzf h3, o1, List.cons_append, List.nil_append, B209_128, if_pos rfl]
                exact no (fun z => h3 z.2.2.2)
            · rw [bzf h2, o1, List.cons_append, List.nil_append, B209_101, if_pos rfl]
              exact no (fun z => h2 z.2.2.1)
          · rw [bzf h1, o1, List.cons_append, List.nil_append, B209_83, if_pos rfl]
            exact no (fun z => h1 z.2.1)
        · rw [bzf h0, o1, List.cons_append, List.nil_append, B209_68, if_pos rfl]
          exact no (fun z => h0 z.1)
      · rw [if_neg h4] at hQ
        rw [if_neg h4, ga K.k0]
        simp only [S160 (k := K.k0), S161 (k := K.k0), S162 (k := K.k0), o1, o0, List.cons_append, List.nil_append, B209_53]
        exact mst C hQ
  · rw [if_neg ht] at hQ
    rw [bzf ht, o1, List.cons_append, List.nil_append, B209_4, if_neg (by decide), ga K.k0]
    simp only [S160 (k := K.k0), S161 (k := K.k0), S162 (k := K.k0), o1, o0, List.cons_append, List.nil_append, B209_12]
    exact mst C hQ
