/-! sheet, both sides -/
theorem S50 {g : KG} {h : KH} {l r b : Int} {A : St} {v : Int → Int} (S : SR g h 6 l r A) (O : A.Ok) (kb : gK g b = 21) (lb : gL g b = 60) (hv : ∀ p, 0 ≤ p → p < 4 + A.nq → h b p = v p) {d : Nat} {Q : Option KV → KG → KH → Prop} (hQ : Q (some (xI (bz (A.gq v A.nq.toNat)))) g h) : Cl (d + 2) 50 [xR 6, xR b] g h Q := by
  have h6 := O.nq
  have hd := O.nd
  have gl : ∀ p, 0 ≤ p → p < 4 + A.nq → gK g b = 21 ∧ 0 ≤ p ∧ p < gL g b := fun p p0 p1 => ⟨kb, p0, by rw [lb]; omega⟩
  have lp : ∀ n q : Nat, q + n = A.nq.toNat → Rn (d + 1) 50 71 [xR 6, xR b, xI (bz (A.gq v q)), xI (q : Int)] [] g h Q := by
    intro n
    induction n with
    | zero =>
      intro q hq
      have hq : q = A.nq.toNat := by omega
      rw [B50_71, ga S.k0, S.pl, ga S.L.k0, S.L.nq, if_pos (by omega), B50_114, ga bzr, hq]
      exact hQ
    | succ n ih =>
      intro q hq
      have hi : inq A q := ⟨by omega, by omega⟩
      have e1 : ((q : Int) + 1) = ((q + 1 : Nat) : Int) := by omega
      have c := O.ch q hi
      rw [B50_71, ga S.k0, S.pl, ga S.L.k0, S.L.nq, if_neg (by omega)]
      by_cases hg : A.gq v q
      · have nx := ih (q + 1) (by omega)
        rw [bzc (gq_s (A := A) (v := v) (n := q))] at nx
        rw [bzt hg, if_neg (by decide), w32_id (by omega) (by omega), ga (gl _ (by omega) (by omega)), ga S.k0, ga S.L.k0, S.L.p2, ga ⟨S.L.k2, by omega, by rw [S.L.l2]; omega⟩, hv _ (by omega) (by omega), S.L.ch q hi, w32_id (by omega) (by omega), S146, o1, List.cons_append, List.nil_append, B50_107, w32_id (by omega) (by omega), e1]
        rw [bzc (show (0 ≤ v (4 + (q : Int)) ∧ v (4 + (q : Int)) ≤ A.ch q - 1) ↔ (A.gq v q ∧ 0 ≤ v (4 + q) ∧ v (4 + q) < A.ch q) from ⟨fun z => ⟨hg, by omega⟩, fun z => by omega⟩)]
        exact nx
      · rw [bzf hg, if_pos rfl, B50_114, g01]
        rw [bzf (fun z => hg (gq_up (n := q) (A.nq.toNat - q) (by rw [show q + (A.nq.toNat - q) = A.nq.toNat by omega]; exact z)))] at hQ
        exact hQ
  have st := lp A.nq.toNat 0 (by omega)
  have no : ¬ good A v → Rn (d + 1) 50 67 [xR 6, xR b, xU, xU] [] g h Q := by
    intro z
    rw [bzf (fun y => z (gq_z.mp y))] at st
    rw [B50_67, B50_68]
    exact st
  rw [E50, ga (gl 0 (by omega) (by omega)), hv 0 (by omega) (by omega), S146]
  by_cases h0 : 0 ≤ v 0 ∧ v 0 ≤ 3
  · rw [bzt h0, o1, List.cons_append, List.nil_append, B50_10, if_neg (by decide), ga (gl 1 (by omega) (by omega)), ga S.k0, S.pl, ga S.L.k0, S.L.nd, hv 1 (by omega) (by omega), w32_id (by omega) (by omega), S146]
    by_cases h1 : 0 ≤ v 1 ∧ v 1 ≤ A.nd - 1
    · rw [bzt h1, o1, List.cons_append, List.nil_append, B50_30, if_neg (by decide), ga (gl 2 (by omega) (by omega)), hv 2 (by omega) (by omega), S146]
      by_cases h2 : 0 ≤ v 2 ∧ v 2 ≤ 1439
      · rw [bzt h2, o1, List.cons_append, List.nil_append, B50_43, if_neg (by decide), ga (gl 3 (by omega) (by omega)), ga (gl 2 (by omega) (by omega)), hv 3 (by omega) (by omega), hv 2 (by omega) (by omega), w64_id (by omega) (by omega), S146]
        by_cases h3 : v 2 + 1 ≤ v 3 ∧ v 3 ≤ 1439
        · rw [bzt (gq_z.mpr ⟨h0, ⟨h1.1, by omega⟩, h2, h3⟩)] at st
          rw [bzt h3, o1, List.cons_append, List.nil_append, B50_60, if_neg (by decide), B50_68]
          exact st
        · rw [bzf h3, o1, List.cons_append, List.nil_append, B50_60, if_pos rfl]
          exact no (fun z => h3 z.2.2.2)
      · rw [bzf h2, o1, List.cons_append, List.nil_append, B50_43, if_pos rfl]
        exact no (fun z => h2 z.2.2.1)
    · rw [bzf h1, o1, List.cons_append, List.nil_append, B50_30, if_pos rfl]
      exact no (fun z => h1 ⟨z.2.1.1, by have := z.2.1.2; omega⟩)
  · rw [bzf h0, o1, List.cons_append, List.nil_append, B50_10, if_pos rfl]
    exact no (fun z => h0 z.1)
theorem w32s {x : Int} (h0 : 0 ≤ x) (h1 : x ≤ 1439) : w32 x = x := w32_id (by omega) (by omega)
theorem S51 {g : KG} {h : KH} {l r b : Int} {A : St} {v : Int → Int} (S : SR g h 6 l r A) (hl : l = 7 ∨ l = 39) (O : A.Ok) (hn : A.ns < 16) (b0 : 55 ≤ b) (kb : gK g b = 21) (lb : gL g b = 60) (hv : ∀ p, 0 ≤ p → p < 4 + A.nq → h b p = v p) (hg : A.gq v A.nq.toNat) {d : Nat} {Q : Option KV → KG → KH → Prop} (hQ : ∀ h2 : KH, (∀ c, c ≠ 6 → (c < 23 ∨ 29 < c) → h2 c = h c) → (∀ j, j ≠ 2 → h2 6 j = h 6 j) → h2 6 2 = A.ns + 1 → (∀ j, h2 23 j = kset (h 23) A.ns (v 0) j) → (∀ j, h2 24 j = kset (h 24) A.ns (v 1) j) → (∀ j, h2 25 j = kset (h 25) A.ns (v 2) j) → (∀ j, h2 26 j = kset (h 26) A.ns (v 3) j) → (∀ j, h2 27 j = kset (h 27) A.ns (St.vrow v A.nq.toNat) j) → (∀ j, h2 28 j = kset (h 28) A.ns 0 j) → (∀ j, h2 29 j = kset (h 29) A.ns 0 j) → Q (some (xI A.ns)) g h2) : Cl (d + 2) 51 [xR 6, xR b] g h Q := by
  have h6 := O.nq
  have h16 := O.ns
  have hd := O.nd
  have g0 := gq_0 hg
  have gl : ∀ p, 0 ≤ p → p < 4 + A.nq → gK g b = 21 ∧ 0 ≤ p ∧ p < gL g b := fun p p0 p1 => ⟨kb, p0, by rw [lb]; omega⟩
  have hs : ∀ (f : Int → Int) (a x j : Int), kset f a x j = if j = a then x else f j := fun _ _ _ _ => rfl
  have he : ∀ (f : KH) (a i x j : Int), hset f a i x a j = kset (f a) i x j := fun f a i x j => by unfold hset kset; simp
  rw [E51, ga S.k0, ga S.k0, ga (gl 0 (by omega) (by omega)), S.ns, S.n3, ga ⟨S.m23, by decide, h16.1, by rw [S.w23]; exact hn⟩, ga S.k0, ga (gl 1 (by omega) (by omega)), hset_a _ _ _ (show (6 : Int) ≠ 23 by decide), S.n4, ga ⟨S.m24, by decide, h16.1, by rw [S.w24]; exact hn⟩, hset_a _ _ _ (show b ≠ 23 by omega), hv 0 (by omega) (by omega), hv 1 (by omega) (by omega), w32s g0.1.1 (by omega), w32s g0.2.1.1 (by omega)]
  generalize eA : hset (hset h 23 A.ns (v 0)) 24 A.ns (v 1) = hA
  have fA : ∀ c, c ≠ 23 → c ≠ 24 → hA c = h c := fun c c1 c2 => by rw [← eA, hset_a _ _ _ c2, hset_a _ _ _ c1]
  have vA : ∀ p, 0 ≤ p → p < 4 + A.nq → hA b p = v p := fun p p0 p1 => by rw [fA b (by omega) (by omega)]; exact hv p p0 p1
  rw [B51_25, ga S.k0, ga (gl 2 (by omega) (by omega)), fA 6 (by decide) (by decide), S.n5, ga ⟨S.m25, by decide, h16.1, by rw [S.w25]; exact hn⟩, ga S.k0, ga (gl 3 (by omega) (by omega)), hset_a _ _ _ (show (6 : Int) ≠ 25 by decide), fA 6 (by decide) (by decide), S.n6, ga ⟨S.m26, by decide, h16.1, by rw [S.w26]; exact hn⟩, hset_a _ _ _ (show b ≠ 25 by omega), vA 2 (by omega) (by omega), vA 3 (by omega) (by omega), w32s g0.2.2.1.1 g0.2.2.1.2, w32s (by omega) g0.2.2.2.2]
  generalize eB : hset (hset hA 25 A.ns (v 2)) 26 A.ns (v 3) = hB
  have fB : ∀ c, c ≠ 25 → c ≠ 26 → hB c = hA c := fun c c1 c2 => by rw [← eB, hset_a _ _ _ c2, hset_a _ _ _ c1]
  have y6 : hB 6 = h 6 := by rw [fB 6 (by decide) (by decide), fA 6 (by decide) (by decide)]
  rw [B51_45, ga S.k0, y6, S.n8, ga ⟨S.m28, by decide, h16.1, by rw [S.w28]; exact hn⟩, ga S.k0, hset_a _ _ _ (show (6 : Int) ≠ 28 by decide), y6, S.n9, ga ⟨S.m29, by decide, h16.1, by rw [S.w29]; exact hn⟩, ga S.k0, hset_a _ _ _ (show (6 : Int) ≠ 29 by decide), hset_a _ _ _ (show (6 : Int) ≠ 28 by decide), y6, S.n7, ga ⟨S.m27, by decide, h16.1, by rw [S.w27]; exact hn⟩, B51_66]
  generalize eC : hset (hset hB 28 A.ns 0) 29 A.ns 0 = hC
  have fC : ∀ c, c ≠ 28 → c ≠ 29 → hC c = hB c := fun c c1 c2 => by rw [← eC, hset_a _ _ _ c2, hset_a _ _ _ c1]
  have lp : ∀ n q : Nat, q + n = A.nq.toNat → Rn (d + 1) 51 68 [xR 6, xR b, xI A.ns, xI (q : Int)] [] g (hset hC 27 A.ns (St.vrow v q)) Q := by
    intro n
    induction n with
    | zero =>
      intro q hq
      have hq : q = A.nq.toNat := by omega
      have z6 : (hset hC 27 A.ns (St.vrow v q)) 6 = h 6 := by rw [hset_a _ _ _ (by decide), fC 6 (by decide) (by decide), y6]
      rw [B51_68, ga S.k0, z6, S.pl, ga S.L.k0, hset_a _ _ _ (show l ≠ 27 by omega), fC l (by omega) (by omega), fB l (by omega) (by omega), fA l (by omega) (by omega), S.L.nq, if_pos (by omega), ga S.k0, ga S.k0, S.ns, w32_id (by omega) (by omega), hq]
      refine hQ _ (fun c c6 c1 => ?_) (fun j hj => ?_) (hset_e _ _ _ _) (fun j => ?_) (fun j => ?_) (fun j => ?_) (fun j => ?_) (fun j => ?_) (fun j => ?_) (fun j => ?_)
      · rw [hset_a _ _ _ c6, hset_a _ _ _ (by omega), fC c (by omega) (by omega), fB c (by omega) (by omega), fA c (by omega) (by omega)]
      · rw [hset_i _ _ hj, hset_a _ _ _ (by decide), fC 6 (by decide) (by decide), y6]
      · rw [hset_a _ _ _ (by decide), hset_a _ _ _ (by decide), fC _ (by decide) (by decide), fB _ (by decide) (by decide), ← eA, hset_a _ _ _ (by decide), he]
      · rw [hset_a _ _ _ (by decide), hset_a _ _ _ (by decide), fC _ (by decide) (by decide), fB _ (by decide) (by decide), ← eA, he, hset_a _ _ _ (by decide)]
      · rw [hset_a _ _ _ (by decide), hset_a _ _ _ (by decide), fC _ (by decide) (by decide), ← eB, hset_a _ _ _ (by decide), he, fA 25 (by decide) (by decide)]
      · rw [hset_a _ _ _ (by decide), hset_a _ _ _ (by decide), fC _ (by decide) (by decide), ← eB, he, hset_a _ _ _ (by decide), fA 26 (by decide) (by decide)]
      · rw [hset_a _ _ _ (by decide), he, fC 27 (by decide) (by decide), fB 27 (by decide) (by decide), fA 27 (by decide) (by decide)]
      · rw [hset_a _ _ _ (by decide), hset_a _ _ _ (by decide), ← eC, hset_a _ _ _ (by decide), he, fB 28 (by decide) (by decide), fA 28 (by decide) (by decide)]
      · rw [hset_a _ _ _ (by decide), hset_a _ _ _ (by decide), ← eC, he, hset_a _ _ _ (by decide), fB 29 (by decide) (by decide), fA 29 (by decide) (by decide)]
    | succ n ih =>
      intro q hq
      have e1 : ((q : Int) + 1) = ((q + 1 : Nat) : Int) := by omega
      have z6 : (hset hC 27 A.ns (St.vrow v q)) 6 = h 6 := by rw [hset_a _ _ _ (by decide), fC 6 (by decide) (by decide), y6]
      have hb : (hset hC 27 A.ns (St.vrow v q)) b = h b := by rw [hset_a _ _ _ (by omega), fC b (by omega) (by omega), fB b (by omega) (by omega), fA b (by omega) (by omega)]
      have hr := vrow_r O q (by omega) (gq_up (n := q) (A.nq.toNat - q) (by rw [show q + (A.nq.toNat - q) = A.nq.toNat by omega]; exact hg))
      have va := gq_q hg (j := q) (by omega)
      have c := O.ch q ⟨by omega, by omega⟩
      rw [B51_68, ga S.k0, z6, S.pl, ga S.L.k0, hset_a _ _ _ (show l ≠ 27 by omega), fC l (by omega) (by omega), fB l (by omega) (by omega), fA l (by omega) (by omega), S.L.nq, if_neg (by omega), ga S.k0, ga S.k0, S.n7, ga ⟨S.m27, h16.1, by rw [S.w27]; exact hn⟩, w32_id (x := 4 + (q : Int)) (by omega) (by omega), ga (gl _ (by omega) (by omega)), hb, hv _ (by omega) (by omega), hset_e, w32s va.1 (by omega), S152 hr.1 hr.2.1 (by omega) (by omega) va.1 (by omega), o1, List.cons_append, List.nil_append, B51_100, ga ⟨S.m27, by decide, h16.1, by rw [S.w27]; exact hn⟩, w32_id (by omega) (by omega), e1]
      have e2 : hset (hset hC 27 A.ns (St.vrow v q)) 27 A.ns (wa (St.vrow v q) q (v (4 + q))) = hset hC 27 A.ns (St.vrow v (q + 1)) := by
        funext x j
        unfold hset
        by_cases hx : x = 27 ∧ j = A.ns
        · rw [if_pos hx, if_pos hx]; rfl
        · rw [if_neg hx, if_neg hx, if_neg hx]
      rw [e2]
      exact ih (q + 1) (by omega)
  exact lp A.nq.toNat 0 (by omega)
theorem C104 {W : Wd} {t : Int} : Cw 104 [xR 0, xI t] 4 W (W.sheet t) := by
  intro g h C d Q hQ
  have C0 := C
  obtain ⟨l, r, l2, r2, C1, C2, C3, C4, C5, C6, C7⟩ := C
  have O := C7.O
  have S := C7.S
  have h6 := O.nq
  have h16 := O.ns
  have hl : l = 7 ∨ l = 39 := by have := C7.l; omega
  unfold Wd.sheet at hQ
  rw [E104, ga C3.k0, S139]
  by_cases ht : 0 ≤ t ∧ t ≤ 3
  · have ht4 : 0 ≤ t ∧ t < 4 := by omega
    have t0 := C1.t0 t ht.1 (by omega)
    obtain ⟨k1, k2, k3, k4⟩ := C1.kt t ht.1 (by omega)
    have T := C4.tm t ht.1 (by omega)
    rw [if_pos ht] at hQ
    rw [bzt ht, o1, List.cons_append, List.nil_append, B104_5, if_pos (by decide), ga C3.k0, C3.p0, ga ⟨Or.inl C1.k1, ht.1, by rw [C1.l1]; omega⟩, t0, ga (by omega), ga k1, S86 C1 C4 ht4]
    by_cases hm : W.tm t = -1
    · rw [if_pos hm] at hQ
      rw [bzt hm, o1, List.cons_append, List.nil_append, B104_25, if_neg (by decide), ga C3.k0]
      simp only [S133 (k := C3.k0), S134 (k := C3.k0), S135 (k := C3.k0), S136 (k := C3.k0), o1, o0, List.cons_append, List.nil_append, B104_33]
      exact cst C0 hQ
    · rw [if_neg hm] at hQ
      have T1 : h (55 + 2 * t) 1 = W.tm t ∧ 0 ≤ W.tm t ∧ W.tm t ≤ 60 := by omega
      rw [bzf hm, o1, List.cons_append, List.nil_append, B104_25, if_pos rfl, ga k1, ga C3.k0, C3.p4, ga S.k0, S.pl, ga S.L.k0, S.L.nq, T1.1, w32_id (by omega) (by omega)]
      by_cases h4 : 4 + W.cur.nq ≤ W.tm t
      · rw [if_pos h4] at hQ
        rw [if_pos h4, ga C3.k0, ga k1, ga S.k0, k2]
        have hv : ∀ p, 0 ≤ p → p < 4 + W.cur.nq → h (56 + 2 * t) p = W.tv t p := fun p p0 p1 => C4.tv t p ht.1 (by omega) p0 (by omega)
        refine S50 S O k3 k4 hv ?_
        by_cases hg : W.cur.gq (W.tv t) W.cur.nq.toNat
        · rw [if_pos hg] at hQ
          rw [bzt hg, o1, List.cons_append, List.nil_append, B104_70, if_pos (by decide), ga C3.k0, C3.p4, ga S.k0, S.ns]
          by_cases hn : W.cur.ns < 16
          · rw [if_pos hn] at hQ
            rw [if_pos hn, ga C3.k0, ga k1, ga S.k0, k2]
            refine S51 S hl O hn (by omega) k3 k4 hv hg (fun h2 f1 f2 f3 q1 q2 q3 q4 q5 q6 q7 => ?_)
            have y0 : h2 0 = h 0 := f1 0 (by decide) (by decide)
            rw [o1, List.cons_append, List.nil_append, B104_109, ga C3.k0]
            simp only [S133 (k := C3.k0), S134 (k := C3.k0), S135 (k := C3.k0), S136 (k := C3.k0), o1, o0, List.cons_append, List.nil_append, B104_112]
            have z : ∀ c, c ≠ 0 → (hset h2 0 11 0) c = h2 c := fun c hc => hset_a _ _ _ hc
            have hi : ∀ i, 0 ≤ i → i < W.cur.ns + 1 → i ≠ W.cur.ns → ins W.cur i := fun i i0 i1 e => ⟨i0, by omega⟩
            have ks : ∀ (f f2 : Int → Int) (x i : Int), 0 ≤ i → i < W.cur.ns + 1 → (i ≠ W.cur.ns → f i = f2 i) → kset f W.cur.ns x i = kset f2 W.cur.ns x i := fun f f2 x i i0 i1 e => by
              unfold kset
              by_cases hx : i = W.cur.ns
              · rw [if_pos hx, if_pos hx]
              · rw [if_neg hx, if_neg hx]; exact e hx
            have U := C0.sheet (h2 := hset h2 0 11 0) (ns := W.cur.ns + 1) (ask := kset W.cur.ask W.cur.ns (W.tv t 0)) (dr := kset W.cur.dr W.cur.ns (W.tv t 1)) (fr := kset W.cur.fr W.cur.ns (W.tv t 2)) (tt := kset W.cur.tt W.cur.ns (W.tv t 3)) (pa := kset W.cur.pa W.cur.ns (St.vrow (W.tv t) W.cur.nq.toNat)) (cd := kset W.cur.cd W.cur.ns 0) (tr := kset W.cur.tr W.cur.ns 0) (hf := W.cur.hf) (O.more hn hg) (fun a a0 a1 a2 a3 a4 => by rw [z a a2, f1 a a3 (by omega)]) (fun j j1 j2 => by rw [z 6 (by decide), f2 j j1]) (fun j hj => by rw [hset_i _ _ hj, y0]) (by rw [z 6 (by decide)]; exact f3)
              (fun i i0 i1 => by rw [z 23 (by decide), q1]; exact ks _ _ _ i i0 i1 (fun e => S.v23 i (hi i i0 i1 e))) (fun i i0 i1 => by rw [z 24 (by decide), q2]; exact ks _ _ _ i i0 i1 (fun e => S.v24 i (hi i i0 i1 e))) (fun i i0 i1 => by rw [z 25 (by decide), q3]; exact ks _ _ _ i i0 i1 (fun e => S.v25 i (hi i i0 i1 e))) (fun i i0 i1 => by rw [z 26 (by decide), q4]; exact ks _ _ _ i i0 i1 (fun e => S.v26 i (hi i i0 i1 e))) (fun i i0 i1 => by rw [z 27 (by decide), q5]; exact ks _ _ _ i i0 i1 (fun e => S.v27 i (hi i i0 i1 e))) (fun i i0 i1 => by rw [z 28 (by decide), q6]; exact ks _ _ _ i i0 i1 (fun e => S.v28 i (hi i i0 i1 e))) (fun i i0 i1 => by rw [z 29 (by decide), q7]; exact ks _ _ _ i i0 i1 (fun e => S.v29 i (hi i i0 i1 e)))
              (fun i i0 i1 h3 => by
                rw [z 30 (by decide), f1 30 (by decide) (by decide)]
                unfold kset at h3
                by_cases e : i = W.cur.ns
                · rw [if_pos e] at h3; exact absurd h3 (by decide)
                · rw [if_neg e] at h3; exact S.v30 i (hi i i0 i1 e) h3)
            rw [hset_e] at U
            exact hQ _ U (fun a ha => by rw [z a (by omega), f1 a (by omega) (by omega)])
          · rw [if_neg hn] at hQ
            rw [if_neg hn, ga C3.k0]
            simp only [S133 (k := C3.k0), S134 (k := C3.k0), S135 (k := C3.k0), S136 (k := C3.k0), o1, o0, List.cons_append, List.nil_append, B104_96]
            exact cst C0 hQ
        · rw [if_neg hg] at hQ
          rw [bzf hg, o1, List.cons_append, List.nil_append, B104_70, if_neg (by decide), ga C3.k0]
          simp only [S133 (k := C3.k0), S134 (k := C3.k0), S135 (k := C3.k0), S136 (k := C3.k0), o1, o0, List.cons_append, List.nil_append, B104_78]
          exact cst C0 hQ
      · rw [if_neg h4] at hQ
        rw [if_neg h4, ga C3.k0]
        simp only [S133 (k := C3.k0), S134 (k := C3.k0), S135 (k := C3.k0), S136 (k := C3.k0), o1, o0, List.cons_append, List.nil_append, B104_58]
        exact cst C0 hQ
  · rw [if_neg ht] at hQ
    rw [bzf ht, o1, List.cons_append, List.nil_append, B104_5, if_neg (by decide), ga C3.k0]
    simp only [S133 (k := C3.k0), S134 (k := C3.k0), S135 (k := C3.k0), S136 (k := C3.k0), o1, o0, List.cons_append, List.nil_append, B104_13]
    exact cst C0 hQ
