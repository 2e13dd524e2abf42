/-! doors, walk and cards, on the class's side -/
theorem LJ.upd {g : KG} {h h2 : KH} {l : Int} (J : LJ g h l) (e2 : h2 (l + 2) = h (l + 2)) (e3 : h2 (l + 3) = h (l + 3)) (e7 : h2 (l + 7) = h (l + 7)) (e4 : h2 4 0 = h 4 0) (el : ∀ j, (j ≤ 4 ∨ j = 6 ∨ j = 7) → h2 l j = h l j) : LJ g h2 l := by
  refine ⟨?_, ?_, ?_, ?_, ?_, ?_⟩
  · have Z := J.lk
    unfold LK at Z ⊢
    rw [el 1 (by decide), el 2 (by decide), el 3 (by decide), el 4 (by decide), el 6 (by decide), el 7 (by decide)]
    exact Z
  · rw [el 0 (by decide)]; exact J.nq
  · rw [el 0 (by decide), e2]; exact J.ch
  · have Z := J.t0
    unfold TK at Z ⊢
    rw [e3]; exact Z
  · have Z := J.t1
    unfold TK at Z ⊢
    rw [e7]; exact Z
  · rw [e4]; exact J.r0
theorem LK.keep2 {g : KG} {h h2 : KH} {l : Int} (Z : LK g h l) (el : ∀ j, (j = 1 ∨ j = 2 ∨ j = 3 ∨ j = 4 ∨ j = 6 ∨ j = 7) → h2 l j = h l j) : LK g h2 l := by
  unfold LK at Z ⊢
  rw [el 1 (by decide), el 2 (by decide), el 3 (by decide), el 4 (by decide), el 6 (by decide), el 7 (by decide)]
  exact Z
theorem S32 {g : KG} (G : GT g) (k4 : gK g 4 = 4) {h : KH} {l : Int} (hl : l = 7 ∨ l = 39) {L : PL} (I : LI g h l L) (P : L.Ok) {t : Int → Int} {n p : Nat} (T : KP h t n p) {d : Nat} {Q : Option KV → KG → KH → Prop} (hQ : ∀ h2 : KH, FL l h h2 → LPo g l t n (sDoor t n L p) h2 → Q none g h2) : Cl (d + 4) 32 [xR 4, xR l] g h Q := by
  have h16 := P.O.nd
  unfold sDoor at hQ
  have b63 : ∀ (h1 : KH) (kk pl y x : Int), FL l h h1 → LJ g h1 l → h1 l 5 = L.A.nd → L.A.nd < 16 → KF h1 n kk pl → (∀ h2 : KH, FL l h h2 → LPo g l t n (.inr (kk, pl)) h2 → Q none g h2) → Rn (d + 3) 32 63 [xR 4, xR l] [xI y, xI L.A.nd, xR (l + 12)] g h1 Q := by
    intro h1 kk pl y x f1 J v5 c6 F q
    have J2 : LJ g (hset (hset h1 (l + 12) L.A.nd y) l 5 (L.A.nd + 1)) l := J.upd (by rw [hset_a _ _ _ (by omega), hset_a _ _ _ (by omega)]) (by rw [hset_a _ _ _ (by omega), hset_a _ _ _ (by omega)]) (by rw [hset_a _ _ _ (by omega), hset_a _ _ _ (by omega)]) (by rw [hset_a _ _ _ (by omega), hset_a _ _ _ (by omega)]) (fun j hj => by rw [hset_i _ _ (by omega), hset_a _ _ _ (by omega)])
    have f2 : FL l h (hset (hset h1 (l + 12) L.A.nd y) l 5 (L.A.nd + 1)) := fun a a2 a4 al => by rw [hset_a _ _ _ (by omega), hset_a _ _ _ (by omega), f1 a a2 a4 al]
    have F2 := F.keep (h2 := hset (hset h1 (l + 12) L.A.nd y) l 5 (L.A.nd + 1)) (by rw [hset_a _ _ _ (by omega), hset_a _ _ _ (by omega)])
    have x5 : (hset h1 (l + 12) L.A.nd y) l 5 = L.A.nd := by rw [hset_a _ _ _ (by omega), v5]
    rw [B32_63, ga ⟨J.lk.k12, by omega, by omega, by rw [J.lk.l12]; omega⟩, ga J.lk.k0, ga J.lk.k0, x5, w32_id (by omega) (by omega), ga k4, J2.r0, ga G.k2]
    refine F84 G F2 (fun h3 f3 F3 => ?_)
    rw [o0, List.nil_append, B32_83]
    exact q h3 (f2.tok f3) (lp_r (J2.tok hl f3) F3)
  rw [E32, ga I.lk.k0, I.nd]
  by_cases c6 : L.A.nd < 16
  · rw [if_neg (by omega)] at hQ
    rw [if_pos c6, ga k4, I.r0, ga G.k2]
    refine T79 G T (fun h1 f1 T1 => ?_)
    have I1 := I.tok hl f1
    have F1 := (FL.rfl_ l h).tok f1
    generalize nxt t n p = p1 at *
    have b44 : ∀ (h2 : KH) (kk pl x : Int), FL l h h2 → LJ g h2 l → h2 l 5 = L.A.nd → KF h2 n kk pl → (∀ h3 : KH, FL l h h3 → LPo g l t n (.inr (kk, pl)) h3 → Q none g h3) → Rn (d + 3) 32 44 [xR 4, xR l] [xI x, xI L.A.nd, xR (l + 11)] g h2 Q := by
      intro h2 kk pl x f2 J v5 F q
      have J2 : LJ g (hset h2 (l + 11) L.A.nd x) l := J.upd (by rw [hset_a _ _ _ (by omega)]) (by rw [hset_a _ _ _ (by omega)]) (by rw [hset_a _ _ _ (by omega)]) (by rw [hset_a _ _ _ (by omega)]) (fun j hj => by rw [hset_a _ _ _ (by omega)])
      have fx : FL l h (hset h2 (l + 11) L.A.nd x) := fun a a2 a4 al => by rw [hset_a _ _ _ (by omega), f2 a a2 a4 al]
      have F2 := F.keep (h2 := hset h2 (l + 11) L.A.nd x) (by rw [hset_a _ _ _ (by omega)])
      have x5 : (hset h2 (l + 11) L.A.nd x) l 5 = L.A.nd := by rw [hset_a _ _ _ (by omega), v5]
      rw [B32_44, ga ⟨J.lk.k11, by omega, by omega, by rw [J.lk.l11]; omega⟩, ga J.lk.k0, ga J.lk.k0, x5, J2.lk.p7, ga k4, J2.r0, ga G.k2]
      refine F83 G F2 (fun h3 v f3 F3 => ?_)
      rw [o1, List.cons_append, List.nil_append]
      exact b63 h3 kk pl v x (fx.tok f3) (J2.tok hl f3) (by rw [f3 l (by omega), x5]) c6 F3 q
    rw [o0, List.nil_append, B32_26, ga I1.lk.k0, ga I1.lk.k0, I1.nd, I1.lk.p6, ga k4, I1.r0, ga G.k2]
    refine T83 G T1 (fun z h2 v f2 X => ?_) (fun z z2 h2 v f2 X => ?_) (fun z z2 h2 f2 T2 => ?_)
    · rw [sNum_b z] at hQ
      rw [o1, List.cons_append, List.nil_append]
      have I2 := I1.tok hl f2
      exact b44 h2 _ _ v (F1.tok f2) (I2.j P) I2.nd X hQ
    · rw [sNum_n z z2] at hQ
      rw [o1, List.cons_append, List.nil_append]
      have I2 := I1.tok hl f2
      exact b44 h2 _ _ v (F1.tok f2) (I2.j P) I2.nd X hQ
    · rw [sNum_y z z2] at hQ
      have I2 := I1.tok hl f2
      have F2 := F1.tok f2
      generalize nxt t n p1 = p2 at *
      generalize nmv t n p1 = x at *
      have I3 : LI g (hset h2 (l + 11) L.A.nd x) l L := by
        refine ⟨I2.lk.keep2 (fun j hj => by rw [hset_a _ _ _ (by omega)]), ?_, ?_, ?_, ?_, ?_, ?_, ?_, ?_, ?_, I2.t0.keep (fun a h0 h1 => hset_a _ _ _ (by omega)), I2.t1.keep (fun a h0 h1 => hset_a _ _ _ (by omega)), ?_, ?_, ?_⟩
        · rw [hset_a _ _ _ (by omega)]; exact I2.nq
        · rw [hset_a _ _ _ (by omega)]; exact I2.nd
        · rw [hset_a _ _ _ (by omega)]; exact I2.wk
        · rw [hset_a _ _ _ (by omega)]; exact I2.ca
        · rw [hset_a _ _ _ (by omega)]; exact I2.cm
        · rw [hset_a _ _ _ (by omega)]; exact I2.na
        · rw [hset_a _ _ _ (by omega)]; exact I2.ch
        · intro i i0 i1; rw [hset_i _ _ (by omega)]; exact I2.dx i i0 i1
        · rw [hset_a _ _ _ (by omega)]; exact I2.dy
        · rw [hset_a _ _ _ (by omega)]; exact I2.r0
        · rw [hset_a _ _ _ (by omega)]; exact I2.tw
        · rw [hset_a _ _ _ (by omega)]; exact I2.tc
      have vx : (hset h2 (l + 11) L.A.nd x) (l + 11) L.A.nd = x := hset_e _ _ _ _
      have T3 := T2.keep (h2 := hset h2 (l + 11) L.A.nd x) (by rw [hset_a _ _ _ (by omega)]) (by rw [hset_a _ _ _ (by omega)])
      have F3 : FL l h (hset h2 (l + 11) L.A.nd x) := fun a a2 a4 al => by rw [hset_a _ _ _ (by omega), F2 a a2 a4 al]
      rw [o1, List.cons_append, List.nil_append, B32_44, ga ⟨I2.lk.k11, by omega, by omega, by rw [I2.lk.l11]; omega⟩, ga I2.lk.k0, ga I2.lk.k0, I3.nd, I3.lk.p7, ga k4, I3.r0, ga G.k2]
      generalize hset h2 (l + 11) L.A.nd x = h3 at *
      refine T83 G T3 (fun z h4 v f4 X => ?_) (fun z z2 h4 v f4 X => ?_) (fun z z2 h4 f4 T4 => ?_)
      · rw [sNum_b z] at hQ
        rw [o1, List.cons_append, List.nil_append]
        have I4 := I3.tok hl f4
        exact b63 h4 _ _ v x (F3.tok f4) (I4.j P) I4.nd c6 X hQ
      · rw [sNum_n z z2] at hQ
        rw [o1, List.cons_append, List.nil_append]
        have I4 := I3.tok hl f4
        exact b63 h4 _ _ v x (F3.tok f4) (I4.j P) I4.nd c6 X hQ
      · rw [sNum_y z z2] at hQ
        have I4 := I3.tok hl f4
        have F4 := F3.tok f4
        have vx4 : h4 (l + 11) L.A.nd = x := by rw [f4 (l + 11) (by omega)]; exact vx
        generalize nxt t n p2 = p3 at *
        generalize nmv t n p2 = y at *
        have x5 : (hset h4 (l + 12) L.A.nd y) l 5 = L.A.nd := by rw [hset_a _ _ _ (by omega), I4.nd]
        rw [o1, List.cons_append, List.nil_append, B32_63, ga ⟨I4.lk.k12, by omega, by omega, by rw [I4.lk.l12]; omega⟩, ga I4.lk.k0, ga I4.lk.k0, x5, w32_id (by omega) (by omega), ga k4]
        generalize eH : hset (hset h4 (l + 12) L.A.nd y) l 5 (L.A.nd + 1) = h5
        have kp : ∀ a, a ≠ l → a ≠ l + 12 → h5 a = h4 a := fun a a0 a1 => by rw [← eH, hset_a _ _ _ a0, hset_a _ _ _ a1]
        have kl : ∀ j, j ≠ 5 → h5 l j = h4 l j := fun j hj => by rw [← eH, hset_i _ _ hj, hset_a _ _ _ (by omega)]
        have I5 : LI g h5 l (L.addd x y) := by
          refine ⟨I4.lk.keep2 (fun j hj => kl j (by omega)), ?_, ?_, ?_, ?_, ?_, ?_, ?_, ?_, ?_, ?_, ?_, ?_, ?_, ?_⟩
          · rw [kl 0 (by decide)]; exact I4.nq
          · rw [← eH, hset_e]; rfl
          · rw [kl 8 (by decide)]; exact I4.wk
          · rw [kl 9 (by decide)]; exact I4.ca
          · rw [kl 10 (by decide)]; exact I4.cm
          · rw [kp (l + 1) (by omega) (by omega)]; exact I4.na
          · rw [kp (l + 2) (by omega) (by omega)]; exact I4.ch
          · intro i i0 i1
            rw [kp (l + 11) (by omega) (by omega)]
            have i1 : i < L.A.nd + 1 := i1
            show _ = if i = L.A.nd then x else L.A.dx i
            split
            · rename_i e; rw [e]; exact vx4
            · exact I4.dx i i0 (by omega)
          · intro i i0 i1
            have i1 : i < L.A.nd + 1 := i1
            show _ = if i = L.A.nd then y else L.A.dy i
            rw [← eH, hset_a _ _ _ (by omega)]
            split
            · rename_i e; rw [e, hset_e]
            · rename_i e; rw [hset_i _ _ e]; exact I4.dy i i0 (by omega)
          · have Z := I4.t0.keep (h2 := h5) (fun a h0 h1 => kp a (by omega) (by omega))
            exact Z
          · have Z := I4.t1.keep (h2 := h5) (fun a h0 h1 => kp a (by omega) (by omega))
            exact Z
          · rw [kp 4 (by omega) (by omega)]; exact I4.r0
          · rw [kp 4 (by omega) (by omega)]; exact I4.tw
          · rw [kp 4 (by omega) (by omega)]; exact I4.tc
        have T5 := T4.keep (kp 2 (by omega) (by omega)) (kp 3 (by omega) (by omega))
        have F5 : FL l h h5 := fun a a2 a4 al => by rw [kp a (by omega) (by omega), F4 a a2 a4 al]
        have P5 : ∀ h6, (∀ a, a ≠ 2 → h6 a = h5 a) → LJ g h6 l := fun h6 f6 => ((I4.j P).upd (by rw [kp (l + 2) (by omega) (by omega)]) (by rw [kp (l + 3) (by omega) (by omega)]) (by rw [kp (l + 7) (by omega) (by omega)]) (by rw [kp 4 (by omega) (by omega)]) (fun j hj => kl j (by omega))).tok hl f6
        rw [I5.r0, ga G.k2]
        refine T84 G T5 (fun y h6 f6 X => ?_) (fun y h6 f6 T6 => ?_)
        · rw [sEnd_n y] at hQ
          rw [o0, List.nil_append, B32_83]
          exact hQ h6 (F5.tok f6) (lp_r (P5 h6 f6) X)
        · rw [sEnd_y y] at hQ
          rw [o0, List.nil_append, B32_83]
          exact hQ h6 (F5.tok f6) (lp_l (I5.tok hl f6) T6)
  · rw [if_pos (by omega)] at hQ
    rw [if_neg c6, ga k4, I.r0, ga G.k2]
    refine T78 G T (by decide) (fun h2 f2 X => ?_)
    rw [o0, List.nil_append, B32_18]
    exact hQ h2 ((FL.rfl_ l h).tok f2) (lp_r ((I.tok hl f2).j P) X)
