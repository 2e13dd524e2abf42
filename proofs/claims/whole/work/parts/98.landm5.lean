/-! A LAND's parts and its text, on the model's side -/
theorem MS.wc {f f2 : Int → Int} {L : PL} (M : MS f L.A) (P : L.Ok) {wk ca cm : Int} (e4 : f2 4 = wk) (e5 : f2 5 = ca) (e6 : f2 6 = cm) (eo : ∀ j, j ≠ 4 → j ≠ 5 → j ≠ 6 → f2 j = f j) : MS f2 (St.mk_ L.A.nq L.A.nd L.A.ns L.A.nr wk ca cm L.A.ch L.A.gb L.A.wt L.A.dx L.A.dy L.A.ask L.A.dr L.A.fr L.A.tt L.A.pa L.A.cd L.A.tr L.A.hf L.A.rs L.A.op L.A.nm L.A.dp) := by
  refine MS.small P.ns P.nr P.O.rs0 ?_ ?_ ?_ ?_ e4 e5 e6 (fun q hq => ?_) (fun m q hm hq => ?_) (fun m q r a hm hq r0 r1 a0 a1 => ?_) (fun i i0 i1 => ?_) (fun i i0 i1 => ?_) ?_
  · rw [eo 0 (by decide) (by decide) (by decide)]; exact M.nq
  · rw [eo 1 (by decide) (by decide) (by decide)]; exact M.nd
  · rw [eo 2 (by decide) (by decide) (by decide)]; exact M.ns.trans P.ns
  · rw [eo 3 (by decide) (by decide) (by decide)]; exact M.nr.trans P.nr
  · have h1 := hq.1
    rw [eo _ (by omega) (by omega) (by omega)]; exact M.ch q hq
  · have h1 := hq.1
    have := bit1_le hm
    rw [eo _ (by omega) (by omega) (by omega)]; exact M.gb m q hm hq
  · have h1 := hq.1
    have := bit1_le hm
    rw [eo _ (by omega) (by omega) (by omega)]; exact M.wt m q r a hm hq r0 r1 a0 a1
  · rw [eo _ (by omega) (by omega) (by omega)]; exact M.dx i i0 i1
  · rw [eo _ (by omega) (by omega) (by omega)]; exact M.dy i i0 i1
  · rw [eo 458 (by decide) (by decide) (by decide)]; exact M.rs 0 (by decide) (by rw [P.nr]; decide)
theorem TB.b17 {x : Int} {L : PL} (B : TB x L) (hb : L.tw = 0 ∨ L.tw = 1) : (and32 x (shl32 1 17) = 0) = (L.tw = 0) := by
  obtain ⟨v, e, hv, h1, h2, h3⟩ := B
  rw [e, show (17 : Int) = ((17 : Nat) : Int) from rfl, and_b (by omega) (by omega)]
  apply propext
  cases y : v.testBit 17
  · rw [y] at h2
    constructor
    · intro _
      rcases hb with z | z
      · exact z
      · exact absurd (h2.2 z) (by decide)
    · intro _; rfl
  · rw [y] at h2
    constructor
    · intro z; exact absurd z (by decide)
    · intro z
      have := h2.1 rfl
      omega
theorem TB.b18 {x : Int} {L : PL} (B : TB x L) (hb : L.tc = 0 ∨ L.tc = 1) : (and32 x (shl32 1 18) = 0) = (L.tc = 0) := by
  obtain ⟨v, e, hv, h1, h2, h3⟩ := B
  rw [e, show (18 : Int) = ((18 : Nat) : Int) from rfl, and_b (by omega) (by omega)]
  apply propext
  cases y : v.testBit 18
  · rw [y] at h3
    constructor
    · intro _
      rcases hb with z | z
      · exact z
      · exact absurd (h3.2 z) (by decide)
    · intro _; rfl
  · rw [y] at h3
    constructor
    · intro z; exact absurd z (by decide)
    · intro z
      have := h3.1 rfl
      omega
theorem TB.walk {x : Int} {L : PL} (B : TB x L) (w : Int) : TB (or32 x (shl32 1 17)) (L.walk w) := by
  obtain ⟨v, e, hv, h1, h2, h3⟩ := B
  have ob := or_b (v := v) (k := 17) hv (by omega)
  rw [e, show (17 : Int) = ((17 : Nat) : Int) from rfl, ob.1]
  refine ⟨_, rfl, ob.2, fun m2 q2 b2 r0 r1 => ?_, ?_, ?_⟩
  · have m2_ := bit1_le b2
    rw [tb_or, decide_eq_false (by omega), Bool.or_false]
    exact h1 m2 q2 b2 r0 r1
  · rw [tb_or, decide_eq_true rfl, Bool.or_true]
    exact ⟨fun _ => rfl, fun _ => rfl⟩
  · rw [tb_or, decide_eq_false (by omega), Bool.or_false]; exact h3
theorem TB.cards {x : Int} {L : PL} (B : TB x L) (a b : Int) : TB (or32 x (shl32 1 18)) (L.cards a b) := by
  obtain ⟨v, e, hv, h1, h2, h3⟩ := B
  have ob := or_b (v := v) (k := 18) hv (by omega)
  rw [e, show (18 : Int) = ((18 : Nat) : Int) from rfl, ob.1]
  refine ⟨_, rfl, ob.2, fun m2 q2 b2 r0 r1 => ?_, ?_, ?_⟩
  · have m2_ := bit1_le b2
    rw [tb_or, decide_eq_false (by omega), Bool.or_false]
    exact h1 m2 q2 b2 r0 r1
  · rw [tb_or, decide_eq_false (by omega), Bool.or_false]; exact h2
  · rw [tb_or, decide_eq_true rfl, Bool.or_true]
    exact ⟨fun _ => rfl, fun _ => rfl⟩
theorem M191 {g : KG} {h : KH} (K : MK g h) {t : Int → Int} {n p : Nat} (T : MP h t n p) {L : PL} (N : NI h L) (P : L.Ok) {d : Nat} {Q : Option KV → KG → KH → Prop} (hQ : MPo g t n h (sPart t n L p) Q) : Cl (d + 5) 191 [xR 138] g h Q := by
  rw [E191, ga K.k0]
  refine M178 K T ?_
  rw [o1, List.cons_append, List.nil_append, B191_6]
  unfold sPart at hQ
  by_cases a0 : wdv t n p = 6386539
  · rw [if_pos a0] at hQ
    rw [a0, show kyl 6386539 = 0 by decide, if_neg (by decide), if_pos (by decide), if_pos (by decide), if_neg (by decide), ga K.k0]
    refine M188 K T N P ⟨fun k pl h2 e F X => ?_, fun p2 h2 e1 e2 F X => ?_, fun L2 p2 h2 e F N2 X => ?_⟩
    · dsimp only
      rw [o1, List.cons_append, List.nil_append, B191_122, B191_144, ga (by decide)]; exact hQ.1 k pl h2 e F X
    · dsimp only
      rw [o1, List.cons_append, List.nil_append, B191_122, B191_144, ga (by decide)]; exact hQ.2.1 p2 h2 e1 e2 F X
    · dsimp only
      rw [o1, List.cons_append, List.nil_append, B191_122, B191_144, ga (by decide)]; exact hQ.2.2 L2 p2 h2 e F N2 X
  rw [if_neg a0] at hQ
  by_cases a1 : wdv t n p = 7102839
  · rw [if_pos a1] at hQ
    rw [a1, show kyl 7102839 = 1 by decide, if_neg (by decide), if_pos (by decide), if_pos (by decide), if_pos (by decide), if_pos (by decide), ga K.k0, show w32 (1 - 1) = 0 by decide]
    refine M189 K T N P (Or.inl rfl) ⟨fun k pl h2 e F X => ?_, fun p2 h2 e1 e2 F X => ?_, fun L2 p2 h2 e F N2 X => ?_⟩
    · dsimp only
      rw [o1, List.cons_append, List.nil_append, B191_144, ga (by decide)]; exact hQ.1 k pl h2 e F X
    · dsimp only
      rw [o1, List.cons_append, List.nil_append, B191_144, ga (by decide)]; exact hQ.2.1 p2 h2 e1 e2 F X
    · dsimp only
      rw [o1, List.cons_append, List.nil_append, B191_144, ga (by decide)]; exact hQ.2.2 L2 p2 h2 e F N2 X
  rw [if_neg a1] at hQ
  by_cases a2 : wdv t n p = 1835626084
  · rw [if_pos a2] at hQ
    rw [a2, show kyl 1835626084 = 2 by decide, if_neg (by decide), if_pos (by decide), if_pos (by decide), if_pos (by decide), if_pos (by decide), ga K.k0, show w32 (2 - 1) = 1 by decide]
    refine M189 K T N P (Or.inr rfl) ⟨fun k pl h2 e F X => ?_, fun p2 h2 e1 e2 F X => ?_, fun L2 p2 h2 e F N2 X => ?_⟩
    · dsimp only
      rw [o1, List.cons_append, List.nil_append, B191_144, ga (by decide)]; exact hQ.1 k pl h2 e F X
    · dsimp only
      rw [o1, List.cons_append, List.nil_append, B191_144, ga (by decide)]; exact hQ.2.1 p2 h2 e1 e2 F X
    · dsimp only
      rw [o1, List.cons_append, List.nil_append, B191_144, ga (by decide)]; exact hQ.2.2 L2 p2 h2 e F N2 X
  rw [if_neg a2] at hQ
  by_cases a4 : wdv t n p = 1685024626
  · rw [if_pos a4] at hQ
    rw [a4, show kyl 1685024626 = 4 by decide, if_neg (by decide), if_pos (by decide), if_pos (by decide), if_pos (by decide), if_neg (by decide), ga K.k0]
    refine M190 K T N P ⟨fun k pl h2 e F X => ?_, fun p2 h2 e1 e2 F X => ?_, fun L2 p2 h2 e F N2 X => ?_⟩
    · dsimp only
      rw [o1, List.cons_append, List.nil_append, B191_134, B191_144, ga (by decide)]; exact hQ.1 k pl h2 e F X
    · dsimp only
      rw [o1, List.cons_append, List.nil_append, B191_134, B191_144, ga (by decide)]; exact hQ.2.1 p2 h2 e1 e2 F X
    · dsimp only
      rw [o1, List.cons_append, List.nil_append, B191_134, B191_144, ga (by decide)]; exact hQ.2.2 L2 p2 h2 e F N2 X
  rw [if_neg a4] at hQ
  by_cases a5 : wdv t n p = 2002873451
  · rw [if_pos a5] at hQ
    have bb := N.tb.b17 P.wb
    unfold sWalk at hQ
    rw [a5, show kyl 2002873451 = 5 by decide, if_neg (by decide), if_pos (by decide), if_neg (by decide), show w32 (12 + 5) = 17 by decide, ga (by decide), ga K.k0]
    by_cases z : L.tw = 0
    · rw [if_neg (fun y => y z)] at hQ
      rw [if_pos (by rw [bb]; exact z), ga K.k0, ga K.k0, ga K.k0]
      have T1 : MP (hset h 138 18 (or32 (h 138 18) (shl32 1 17))) t n p := T.bit
      have F1 : FN h (hset h 138 18 (or32 (h 138 18) (shl32 1 17))) := (FN.rfl_ h).bit
      have B1 : ∀ w, TB (hset h 138 18 (or32 (h 138 18) (shl32 1 17)) 138 18) (L.walk w) := fun w => by rw [hset_e]; exact N.tb.walk w
      have g1 : ∀ a, a ≠ 138 → hset h 138 18 (or32 (h 138 18) (shl32 1 17)) a = h a := fun a ha => hset_a _ _ _ ha
      generalize hset h 138 18 (or32 (h 138 18) (shl32 1 17)) = h1 at *
      have K1 := F1.mk K
      refine M176 K1 T1 (fun h2 f2 _ T2 => ?_)
      have F2 := F1.tok f2
      have K2 := F2.mk K
      generalize nxt t n p = p2 at *
      rw [o0, List.nil_append, B191_64, if_neg (by decide), ga K.k0]
      refine M182 K2 T2 (by decide) (fun z2 h3 f3 F => ?_) (fun z2 z3 h3 f3 F => ?_) (fun z2 z3 h3 f3 T3 => ?_)
      · rw [sNum_b z2] at hQ
        rw [o1, List.cons_append, List.nil_append, B191_79, B191_113, ga (by decide)]
        exact hQ.1 _ _ h3 rfl (F2.tok f3) F
      · rw [sNum_n z2 z3] at hQ
        rw [o1, List.cons_append, List.nil_append, B191_79, B191_113, ga (by decide)]
        exact hQ.1 _ _ h3 rfl (F2.tok f3) F
      · rw [sNum_y z2 z3] at hQ
        have F3 := (F2.at_ (i := 3604) (v := nmv t n p2) (by decide)).tok f3
        have e3 : h3 139 = (hset h2 139 3604 (nmv t n p2)) 139 := f3.1 139 (by decide)
        have o3 : ∀ j, j ≠ 3604 → h3 139 j = h 139 j := fun j hj => by rw [e3, hset_i _ _ hj, f2.1 139 (by decide), g1 139 (by decide)]
        rw [o1, List.cons_append, List.nil_append, B191_79, B191_113, ga (by decide)]
        refine hQ.2.2 (L.walk (nmv t n p2)) _ h3 rfl F3 ⟨N.ms.wc P (by show h3 139 3604 = _; rw [e3, hset_e]) (by show h3 139 3605 = _; rw [o3 _ (by decide)]; exact N.ms.ca) (by show h3 139 3606 = _; rw [o3 _ (by decide)]; exact N.ms.cm) (fun j j4 _ _ => o3 _ (by omega)), ?_, ?_⟩ T3
        · rw [f3.1 145 (by decide), hset_a _ _ _ (by decide), f2.1 145 (by decide), g1 145 (by decide)]; exact N.na
        · rw [f3.2 18 (by decide), hset_a _ _ _ (by decide), f2.2 18 (by decide)]; exact B1 _
    · rw [if_pos z] at hQ
      rw [if_neg (fun y => z (by rw [bb] at y; exact y)), ga K.k0]
      refine M179 K T (by decide) (fun h2 f2 F => ?_)
      rw [o1, List.cons_append, List.nil_append, B191_49, ga (by decide)]
      exact hQ.1 _ _ h2 rfl ((FN.rfl_ h).tok f2) F
  rw [if_neg a5] at hQ
  by_cases a6 : wdv t n p = 426836649075
  · rw [if_pos a6] at hQ
    have bb := N.tb.b18 P.cb
    unfold sCards at hQ
    rw [a6, show kyl 426836649075 = 6 by decide, if_neg (by decide), if_pos (by decide), if_neg (by decide), show w32 (12 + 6) = 18 by decide, ga (by decide), ga K.k0]
    by_cases z : L.tc = 0
    · rw [if_neg (fun y => y z)] at hQ
      rw [if_pos (by rw [bb]; exact z), ga K.k0, ga K.k0, ga K.k0]
      have T1 : MP (hset h 138 18 (or32 (h 138 18) (shl32 1 18))) t n p := T.bit
      have F1 : FN h (hset h 138 18 (or32 (h 138 18) (shl32 1 18))) := (FN.rfl_ h).bit
      have B1 : ∀ a b, TB (hset h 138 18 (or32 (h 138 18) (shl32 1 18)) 138 18) (L.cards a b) := fun a b => by rw [hset_e]; exact N.tb.cards a b
      have g1 : ∀ a, a ≠ 138 → hset h 138 18 (or32 (h 138 18) (shl32 1 18)) a = h a := fun a ha => hset_a _ _ _ ha
      generalize hset h 138 18 (or32 (h 138 18) (shl32 1 18)) = h1 at *
      have K1 := F1.mk K
      refine M176 K1 T1 (fun h2 f2 _ T2 => ?_)
      have F2 := F1.tok f2
      have K2 := F2.mk K
      generalize nxt t n p = p2 at *
      rw [o0, List.nil_append, B191_64, if_pos (by decide), ga K.k0]
      have bad : ∀ h3 : KH, Q (some (xI 0)) g h3 → Rn (d + 4) 191 112 [xR 138, xI 6, xI (shl32 1 18)] [] g h3 Q := by
        intro h3 q
        rw [B191_112, B191_113, ga (by decide)]
        exact q
      refine M182 K2 T2 (by decide) (fun z2 h3 f3 F => ?_) (fun z2 z3 h3 f3 F => ?_) (fun z2 z3 h3 f3 T3 => ?_)
      · rw [sNum_b z2] at hQ
        rw [o1, List.cons_append, List.nil_append, B191_92, if_pos rfl]
        exact bad h3 (hQ.1 _ _ h3 rfl (F2.tok f3) F)
      · rw [sNum_n z2 z3] at hQ
        rw [o1, List.cons_append, List.nil_append, B191_92, if_pos rfl]
        exact bad h3 (hQ.1 _ _ h3 rfl (F2.tok f3) F)
      · rw [sNum_y z2 z3] at hQ
        have F3 := (F2.at_ (i := 3605) (v := nmv t n p2) (by decide)).tok f3
        have K3 := F3.mk K
        have e3 : h3 139 = (hset h2 139 3605 (nmv t n p2)) 139 := f3.1 139 (by decide)
        have o3 : ∀ j, j ≠ 3605 → h3 139 j = h 139 j := fun j hj => by rw [e3, hset_i _ _ hj, f2.1 139 (by decide), g1 139 (by decide)]
        have c3 : h3 139 3605 = nmv t n p2 := by rw [e3, hset_e]
        have b3 : h3 145 = h 145 := by rw [f3.1 145 (by decide), hset_a _ _ _ (by decide), f2.1 145 (by decide), g1 145 (by decide)]
        have x3 : h3 138 18 = h1 138 18 := by rw [f3.2 18 (by decide), hset_a _ _ _ (by decide), f2.2 18 (by decide)]
        generalize nxt t n p2 = p3 at *
        generalize nmv t n p2 = x at *
        rw [o1, List.cons_append, List.nil_append, B191_92, if_neg (by decide), ga K.k0]
        refine M182 K3 T3 (by decide) (fun z4 h4 f4 F => ?_) (fun z4 z5 h4 f4 F => ?_) (fun z4 z5 h4 f4 T4 => ?_)
        · rw [sNum_b z4] at hQ
          rw [o1, List.cons_append, List.nil_append, B191_105, if_pos rfl]
          exact bad h4 (hQ.1 _ _ h4 rfl (F3.tok f4) F)
        · rw [sNum_n z4 z5] at hQ
          rw [o1, List.cons_append, List.nil_append, B191_105, if_pos rfl]
          exact bad h4 (hQ.1 _ _ h4 rfl (F3.tok f4) F)
        · rw [sNum_y z4 z5] at hQ
          have F4 := (F3.at_ (i := 3606) (v := nmv t n p3) (by decide)).tok f4
          have e4 : h4 139 = (hset h3 139 3606 (nmv t n p3)) 139 := f4.1 139 (by decide)
          have o4 : ∀ j, j ≠ 3606 → h4 139 j = h3 139 j := fun j hj => by rw [e4, hset_i _ _ hj]
          rw [o1, List.cons_append, List.nil_append, B191_105, if_neg (by decide), B191_113, ga (by decide)]
          refine hQ.2.2 (L.cards x (nmv t n p3)) _ h4 rfl F4 ⟨N.ms.wc P (by show h4 139 3604 = _; rw [o4 _ (by decide), o3 _ (by decide)]; exact N.ms.wk) (by show h4 139 3605 = _; rw [o4 _ (by decide), c3]) (by show h4 139 3606 = _; rw [e4, hset_e]) (fun j j4 j5 j6 => by show h4 139 _ = _; rw [o4 _ (by omega), o3 _ (by omega)]), ?_, ?_⟩ T4
          · rw [f4.1 145 (by decide), hset_a _ _ _ (by decide), b3]; exact N.na
          · rw [f4.2 18 (by decide), hset_a _ _ _ (by decide), x3]; exact B1 _ _
    · rw [if_pos z] at hQ
      rw [if_neg (fun y => z (by rw [bb] at y; exact y)), ga K.k0]
      refine M179 K T (by decide) (fun h2 f2 F => ?_)
      rw [o1, List.cons_append, List.nil_append, B191_49, ga (by decide)]
      exact hQ.1 _ _ h2 rfl ((FN.rfl_ h).tok f2) F
  rw [if_neg a6] at hQ
  have fin : ∀ k, Rn (d + 4) 191 17 [xR 138, xI k, xU] [] g h Q := by
    intro k
    rw [B191_17, ga K.k0]
    refine M179 K T (by decide) (fun h2 f2 F => ?_)
    rw [o1, List.cons_append, List.nil_append, B191_22, ga (by decide)]
    exact hQ.1 _ _ h2 rfl ((FN.rfl_ h).tok f2) F
  by_cases a3 : wdv t n p = 25209
  · rw [a3, show kyl 25209 = 3 by decide, if_neg (by decide), if_neg (by decide)]
    exact fin _
  · have e : kyl (wdv t n p) = -1 := by rw [kyl_n]; exact ⟨a0, a1, a2, a3, a4, a5, a6⟩
    rw [e, if_pos rfl]
    exact fin _
