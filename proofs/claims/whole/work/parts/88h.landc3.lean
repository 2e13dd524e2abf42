/-! walk and cards -/
theorem LJ.s4 {g : KG} {h : KH} {l j v : Int} (hl : l = 7 ∨ l = 39) (J : LJ g h l) (hj : j ≠ 0) : LJ g (hset h 4 j v) l := J.upd (hset_a _ _ _ (by omega)) (hset_a _ _ _ (by omega)) (hset_a _ _ _ (by omega)) (hset_i _ _ (by omega)) (fun i hi => by rw [hset_a _ _ _ (by omega)])
theorem LJ.sl {g : KG} {h : KH} {l j v : Int} (hl : l = 7 ∨ l = 39) (J : LJ g h l) (hj : 8 ≤ j) : LJ g (hset h l j v) l := J.upd (hset_a _ _ _ (by omega)) (hset_a _ _ _ (by omega)) (hset_a _ _ _ (by omega)) (by rw [hset_a _ _ _ (by omega)]) (fun i hi => hset_i _ _ (by omega))
theorem FL.s4 {l : Int} {h h1 : KH} {j v : Int} (F : FL l h h1) : FL l h (hset h1 4 j v) := fun a a2 a4 al => by rw [hset_a _ _ _ a4, F a a2 a4 al]
theorem FL.sl {l : Int} {h h1 : KH} {j v : Int} (F : FL l h h1) : FL l h (hset h1 l j v) := fun a a2 a4 al => by rw [hset_a _ _ _ (by omega), F a a2 a4 al]
theorem KF.s {h : KH} {n : Nat} {k pl a j v : Int} (F : KF h n k pl) (ha : a ≠ 2) : KF (hset h a j v) n k pl := F.keep (hset_a _ _ _ (by omega))
theorem KP.s {h : KH} {t : Int → Int} {n p : Nat} {a j v : Int} (T : KP h t n p) (ha : a ≠ 2) (ha3 : a ≠ 3) : KP (hset h a j v) t n p := T.keep (hset_a _ _ _ (by omega)) (hset_a _ _ _ (by omega))
/-- a land whose told walk and cards are others -/
theorem LI.fl {g : KG} {h h2 : KH} {l : Int} {L L2 : PL} (I : LI g h l L) (ea : ∀ a, a ≠ 2 → a ≠ 4 → a ≠ l → h2 a = h a) (el : ∀ j, (j < 8 ∨ 10 < j) → h2 l j = h l j) (e0 : h2 4 0 = h 4 0) (hl : l = 7 ∨ l = 39) (ew : h2 l 8 = L2.A.wk) (ec : h2 l 9 = L2.A.ca) (em : h2 l 10 = L2.A.cm) (et : h2 4 1 = L2.tw) (eu : h2 4 2 = L2.tc) (q1 : L2.A.nq = L.A.nq) (q2 : L2.A.nd = L.A.nd) (q3 : L2.na = L.na) (q4 : L2.A.ch = L.A.ch) (q5 : L2.A.dx = L.A.dx) (q6 : L2.A.dy = L.A.dy) (q7 : L2.A.gb = L.A.gb) (q8 : L2.A.wt = L.A.wt) (q9 : L2.tq = L.tq) : LI g h2 l L2 := by
  have tt : ∀ t m, TI g h2 t L m → TI g h2 t L2 m := by
    intro t m T
    have T := T
    unfold TI at T ⊢
    unfold inq St.rows at T ⊢
    rw [q1, q4, q7, q8, q9]
    exact T
  refine ⟨I.lk.keep2 (fun j hj => el j (by omega)), ?_, ?_, ew, ec, em, ?_, ?_, ?_, ?_, tt _ _ (I.t0.keep (fun a h0 h1 => ea a (by omega) (by omega) (by omega))), tt _ _ (I.t1.keep (fun a h0 h1 => ea a (by omega) (by omega) (by omega))), by rw [e0]; exact I.r0, et, eu⟩
  · rw [el 0 (by decide), q1]; exact I.nq
  · rw [el 5 (by decide), q2]; exact I.nd
  · unfold inq; rw [ea (l + 1) (by omega) (by omega) (by omega), q1, q3]; exact I.na
  · unfold inq; rw [ea (l + 2) (by omega) (by omega) (by omega), q1, q4]; exact I.ch
  · rw [ea (l + 11) (by omega) (by omega) (by omega), q2, q5]; exact I.dx
  · rw [ea (l + 12) (by omega) (by omega) (by omega), q2, q6]; exact I.dy
theorem S33 {g : KG} (G : GT g) (k4 : gK g 4 = 4) {h : KH} {l : Int} (hl : l = 7 ∨ l = 39) {L : PL} (I : LI g h l L) (P : L.Ok) {t : Int → Int} {n p : Nat} (T : KP h t n p) {d : Nat} {Q : Option KV → KG → KH → Prop} (hQ : ∀ h2 : KH, FL l h h2 → LPo g l t n (sWalk t n L p) h2 → Q none g h2) : Cl (d + 4) 33 [xR 4, xR l] g h Q := by
  unfold sWalk at hQ
  have b38 : ∀ (h1 : KH) (kk pl x : Int), FL l h h1 → LJ g h1 l → KF h1 n kk pl → (∀ h2 : KH, FL l h h2 → LPo g l t n (.inr (kk, pl)) h2 → Q none g h2) → Rn (d + 3) 33 38 [xR 4, xR l] [xI x, xR l] g h1 Q := by
    intro h1 kk pl x f1 J F q
    have J2 := J.sl hl (j := 8) (v := x) (by decide)
    rw [B33_38, ga J.lk.k0, ga k4, J2.r0, ga G.k2]
    refine F84 G (F.s (by omega)) (fun h3 f3 F3 => ?_)
    rw [o0, List.nil_append, B33_50]
    exact q h3 (f1.sl.tok f3) (lp_r (J2.tok hl f3) F3)
  rw [E33, ga k4, I.tw]
  by_cases c5 : L.tw = 0
  · rw [if_neg (fun z => z c5)] at hQ
    have J1 := (I.j P).s4 (j := 1) (v := 1) hl (by decide)
    have F1 := (FL.rfl_ l h).s4 (j := 1) (v := 1)
    have T1 := T.s (a := 4) (j := 1) (v := 1) (by decide) (by decide)
    have v1 : hset h 4 1 1 4 1 = 1 := hset_e _ _ _ _
    have k1 : ∀ a, a ≠ 4 → hset h 4 1 1 a = h a := fun a ha => hset_a _ _ _ ha
    have k2 : ∀ j, j ≠ 1 → hset h 4 1 1 4 j = h 4 j := fun j hj => hset_i _ _ hj
    rw [if_pos c5, B33_15, ga ⟨k4, by decide, by decide⟩, ga k4, J1.r0, ga G.k2]
    generalize hset h 4 1 1 = h1 at *
    refine T79 G T1 (fun h2 f2 T2 => ?_)
    have J2 := J1.tok hl f2
    have F2 := F1.tok f2
    generalize nxt t n p = p1 at *
    rw [o0, List.nil_append, B33_27, ga k4, J2.r0, ga G.k2]
    refine T83 G T2 (fun z h3 v f3 X => ?_) (fun z z2 h3 v f3 X => ?_) (fun z z2 h3 f3 T3 => ?_)
    · rw [sNum_b z] at hQ
      rw [o1, List.cons_append, List.nil_append]
      exact b38 h3 _ _ v (F2.tok f3) (J2.tok hl f3) X hQ
    · rw [sNum_n z z2] at hQ
      rw [o1, List.cons_append, List.nil_append]
      exact b38 h3 _ _ v (F2.tok f3) (J2.tok hl f3) X hQ
    · rw [sNum_y z z2] at hQ
      have J3 := J2.tok hl f3
      have F3 := F2.tok f3
      generalize nxt t n p1 = p2 at *
      generalize nmv t n p1 = x at *
      have J4 := J3.sl hl (j := 8) (v := x) (by decide)
      have I4 : LI g (hset h3 l 8 x) l (L.walk x) := by
        refine I.fl (fun a a2 a4 al => ?_) (fun j hj => ?_) ?_ hl (hset_e _ _ _ _) ?_ ?_ ?_ ?_ rfl rfl rfl rfl rfl rfl rfl rfl rfl
        · rw [hset_a _ _ _ al, f3 a a2, f2 a a2, k1 a a4]
        · rw [hset_i _ _ (by omega), f3 l (by omega), f2 l (by omega), k1 l (by omega)]
        · rw [J4.r0, I.r0]
        · rw [hset_i _ _ (by decide), f3 l (by omega), f2 l (by omega), k1 l (by omega)]; exact I.ca
        · rw [hset_i _ _ (by decide), f3 l (by omega), f2 l (by omega), k1 l (by omega)]; exact I.cm
        · rw [hset_a _ _ _ (by omega), f3 4 (by decide), f2 4 (by decide), v1]; rfl
        · rw [hset_a _ _ _ (by omega), f3 4 (by decide), f2 4 (by decide), k2 2 (by decide)]; exact I.tc
      rw [o1, List.cons_append, List.nil_append, B33_38, ga J3.lk.k0, ga k4, J4.r0, ga G.k2]
      refine T84 G (T3.s (by omega) (by omega)) (fun y h5 f5 X => ?_) (fun y h5 f5 T5 => ?_)
      · rw [sEnd_n y] at hQ
        rw [o0, List.nil_append, B33_50]
        exact hQ h5 (F3.sl.tok f5) (lp_r (J4.tok hl f5) X)
      · rw [sEnd_y y] at hQ
        rw [o0, List.nil_append, B33_50]
        exact hQ h5 (F3.sl.tok f5) (lp_l (I4.tok hl f5) T5)
  · rw [if_pos c5] at hQ
    rw [if_neg c5, ga k4, I.r0, ga G.k2]
    refine T78 G T (by decide) (fun h1 f1 X => ?_)
    have J1 := ((I.j P).tok hl f1).s4 (j := 1) (v := 1) hl (by decide)
    have F1 := ((FL.rfl_ l h).tok f1).s4 (j := 1) (v := 1)
    rw [o0, List.nil_append, B33_15, ga ⟨k4, by decide, by decide⟩, ga k4, J1.r0, ga G.k2]
    refine F79 G (X.s (by decide)) (fun h2 f2 X2 => ?_)
    have J2 := J1.tok hl f2
    rw [o0, List.nil_append, B33_27, ga k4, J2.r0, ga G.k2]
    refine F83 G X2 (fun h3 v f3 X3 => ?_)
    rw [o1, List.cons_append, List.nil_append]
    exact b38 h3 _ _ v ((F1.tok f2).tok f3) (J2.tok hl f3) X3 hQ
theorem S34 {g : KG} (G : GT g) (k4 : gK g 4 = 4) {h : KH} {l : Int} (hl : l = 7 ∨ l = 39) {L : PL} (I : LI g h l L) (P : L.Ok) {t : Int → Int} {n p : Nat} (T : KP h t n p) {d : Nat} {Q : Option KV → KG → KH → Prop} (hQ : ∀ h2 : KH, FL l h h2 → LPo g l t n (sCards t n L p) h2 → Q none g h2) : Cl (d + 4) 34 [xR 4, xR l] g h Q := by
  unfold sCards at hQ
  have b52 : ∀ (h1 : KH) (kk pl x : Int), FL l h h1 → LJ g h1 l → KF h1 n kk pl → (∀ h2 : KH, FL l h h2 → LPo g l t n (.inr (kk, pl)) h2 → Q none g h2) → Rn (d + 3) 34 52 [xR 4, xR l] [xI x, xR l] g h1 Q := by
    intro h1 kk pl x f1 J F q
    have J2 := J.sl hl (j := 10) (v := x) (by decide)
    rw [B34_52, ga J.lk.k0, ga k4, J2.r0, ga G.k2]
    refine F84 G (F.s (by omega)) (fun h3 f3 F3 => ?_)
    rw [o0, List.nil_append, B34_64]
    exact q h3 (f1.sl.tok f3) (lp_r (J2.tok hl f3) F3)
  have b38 : ∀ (h1 : KH) (kk pl x : Int), FL l h h1 → LJ g h1 l → KF h1 n kk pl → (∀ h2 : KH, FL l h h2 → LPo g l t n (.inr (kk, pl)) h2 → Q none g h2) → Rn (d + 3) 34 38 [xR 4, xR l] [xI x, xR l] g h1 Q := by
    intro h1 kk pl x f1 J F q
    have J2 := J.sl hl (j := 9) (v := x) (by decide)
    rw [B34_38, ga J.lk.k0, ga k4, J2.r0, ga G.k2]
    refine F83 G (F.s (by omega)) (fun h3 v f3 F3 => ?_)
    rw [o1, List.cons_append, List.nil_append]
    exact b52 h3 kk pl v (f1.sl.tok f3) (J2.tok hl f3) F3 q
  rw [E34, ga k4, I.tc]
  by_cases c5 : L.tc = 0
  · rw [if_neg (fun z => z c5)] at hQ
    have J1 := (I.j P).s4 (j := 2) (v := 1) hl (by decide)
    have F1 := (FL.rfl_ l h).s4 (j := 2) (v := 1)
    have T1 := T.s (a := 4) (j := 2) (v := 1) (by decide) (by decide)
    have v1 : hset h 4 2 1 4 2 = 1 := hset_e _ _ _ _
    have k1 : ∀ a, a ≠ 4 → hset h 4 2 1 a = h a := fun a ha => hset_a _ _ _ ha
    have k2 : ∀ j, j ≠ 2 → hset h 4 2 1 4 j = h 4 j := fun j hj => hset_i _ _ hj
    rw [if_pos c5, B34_15, ga ⟨k4, by decide, by decide⟩, ga k4, J1.r0, ga G.k2]
    generalize hset h 4 2 1 = h1 at *
    refine T79 G T1 (fun h2 f2 T2 => ?_)
    have J2 := J1.tok hl f2
    have F2 := F1.tok f2
    generalize nxt t n p = p1 at *
    rw [o0, List.nil_append, B34_27, ga k4, J2.r0, ga G.k2]
    refine T83 G T2 (fun z h3 v f3 X => ?_) (fun z z2 h3 v f3 X => ?_) (fun z z2 h3 f3 T3 => ?_)
    · rw [sNum_b z] at hQ
      rw [o1, List.cons_append, List.nil_append]
      exact b38 h3 _ _ v (F2.tok f3) (J2.tok hl f3) X hQ
    · rw [sNum_n z z2] at hQ
      rw [o1, List.cons_append, List.nil_append]
      exact b38 h3 _ _ v (F2.tok f3) (J2.tok hl f3) X hQ
    · rw [sNum_y z z2] at hQ
      have J3 := J2.tok hl f3
      have F3 := F2.tok f3
      generalize nxt t n p1 = p2 at *
      generalize nmv t n p1 = x at *
      have J4 := J3.sl hl (j := 9) (v := x) (by decide)
      have F4 := F3.sl (j := 9) (v := x)
      rw [o1, List.cons_append, List.nil_append, B34_38, ga J3.lk.k0, ga k4, J4.r0, ga G.k2]
      refine T83 G (T3.s (by omega) (by omega)) (fun z h5 v f5 X => ?_) (fun z z2 h5 v f5 X => ?_) (fun z z2 h5 f5 T5 => ?_)
      · rw [sNum_b z] at hQ
        rw [o1, List.cons_append, List.nil_append]
        exact b52 h5 _ _ v (F4.tok f5) (J4.tok hl f5) X hQ
      · rw [sNum_n z z2] at hQ
        rw [o1, List.cons_append, List.nil_append]
        exact b52 h5 _ _ v (F4.tok f5) (J4.tok hl f5) X hQ
      · rw [sNum_y z z2] at hQ
        have J5 := J4.tok hl f5
        have F5 := F4.tok f5
        generalize nxt t n p2 = p3 at *
        generalize nmv t n p2 = y at *
        have J6 := J5.sl hl (j := 10) (v := y) (by decide)
        have el : ∀ j, j ≠ 9 → j ≠ 10 → (hset h5 l 10 y) l j = h l j := fun j j1 j2 => by rw [hset_i _ _ j2, f5 l (by omega), hset_i _ _ j1, f3 l (by omega), f2 l (by omega), k1 l (by omega)]
        have e4 : ∀ j, (hset h5 l 10 y) 4 j = h1 4 j := fun j => by rw [hset_a _ _ _ (by omega), f5 4 (by decide), hset_a _ _ _ (by omega), f3 4 (by decide), f2 4 (by decide)]
        have I6 : LI g (hset h5 l 10 y) l (L.cards x y) := by
          refine I.fl (fun a a2 a4 al => ?_) (fun j hj => el j (by omega) (by omega)) ?_ hl ?_ ?_ (hset_e _ _ _ _) ?_ ?_ rfl rfl rfl rfl rfl rfl rfl rfl rfl
          · rw [hset_a _ _ _ al, f5 a a2, hset_a _ _ _ al, f3 a a2, f2 a a2, k1 a a4]
          · rw [J6.r0, I.r0]
          · rw [el 8 (by decide) (by decide)]; exact I.wk
          · rw [hset_i _ _ (by decide), f5 l (by omega), hset_e]; rfl
          · rw [e4, k2 1 (by decide)]; exact I.tw
          · rw [e4, v1]; rfl
        rw [o1, List.cons_append, List.nil_append, B34_52, ga J5.lk.k0, ga k4, J6.r0, ga G.k2]
        refine T84 G (T5.s (by omega) (by omega)) (fun y h5 f5 X => ?_) (fun y h5 f5 T5 => ?_)
        · rw [sEnd_n y] at hQ
          rw [o0, List.nil_append, B34_64]
          exact hQ h5 (F5.sl.tok f5) (lp_r (J6.tok hl f5) X)
        · rw [sEnd_y y] at hQ
          rw [o0, List.nil_append, B34_64]
          exact hQ h5 (F5.sl.tok f5) (lp_l (I6.tok hl f5) T5)
  · rw [if_pos c5] at hQ
    rw [if_neg c5, ga k4, I.r0, ga G.k2]
    refine T78 G T (by decide) (fun h1 f1 X => ?_)
    have J1 := ((I.j P).tok hl f1).s4 (j := 2) (v := 1) hl (by decide)
    have F1 := ((FL.rfl_ l h).tok f1).s4 (j := 2) (v := 1)
    rw [o0, List.nil_append, B34_15, ga ⟨k4, by decide, by decide⟩, ga k4, J1.r0, ga G.k2]
    refine F79 G (X.s (by decide)) (fun h2 f2 X2 => ?_)
    have J2 := J1.tok hl f2
    rw [o0, List.nil_append, B34_27, ga k4, J2.r0, ga G.k2]
    refine F83 G X2 (fun h3 v f3 X3 => ?_)
    rw [o1, List.cons_append, List.nil_append]
    exact b38 h3 _ _ v ((F1.tok f2).tok f3) (J2.tok hl f3) X3 hQ
