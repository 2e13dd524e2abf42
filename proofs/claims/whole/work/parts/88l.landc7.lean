/-! the whole text, and the call land, on the class's side -/
theorem TI.tr {g : KG} {h h2 : KH} {tt : Int} {L : PL} {m : Int} (T : TI g h tt L m) (P : L.Ok) (hm : bit1 m) (e0 : h2 tt = h tt) (e1 : h2 (tt + 1) = h (tt + 1)) (c : ∀ q, inq L.A q → (h (tt + 2) q ≠ 0 → ∀ j, 16 * q ≤ j → j < 16 * q + 16 → h2 (tt + 3) j = h (tt + 3) j) ∧ (h (tt + 2) q = 0 → ∀ a, 0 ≤ a → a < L.A.ch q → h2 (tt + 3) (16 * q + a) = shq (L.A.ch q) a)) : TR g h2 tt L.A m := by
  have O := P.O
  have h6 := O.nq
  refine ⟨?_, fun q hq => ?_, fun q r a hq r0 r1 a0 a1 => ?_⟩
  · have Z := T.tk
    unfold TK at Z ⊢
    rw [e0]; exact Z
  · have q1 := hq.2
    rw [e1]; exact T.b q hq.1 (by omega)
  · have q1 := hq.2
    have oc := T.o q hq.1 (by omega)
    have cc := c q hq
    have c4 := O.ch q hq
    rcases P.tb m q with z | z
    · have u := P.ut m q hm hq z
      have rz : r = 0 := by
        unfold St.rows at r1
        rw [if_pos u.1] at r1
        omega
      rw [rz, u.2 a]
      have := cc.2 (by rw [oc]; exact z) a a0 a1
      rw [← this, show 16 * q + 4 * 0 + a = 16 * q + a by omega]
    · have rr : r < 4 := by
        unfold St.rows at r1
        rcases O.gb m q hm hq with y | y
        · rw [if_pos y] at r1; omega
        · have c2 := O.ch (L.A.gb m q) ⟨y.1, by omega⟩
          rw [if_neg (by omega)] at r1; omega
      rw [cc.1 (by rw [oc, z]; decide) _ (by omega) (by omega)]
      exact T.w q r a hq z r0 r1 a0 a1
theorem TK.keep2 {g : KG} {h h2 : KH} {t : Int} (Z : TK g h t) (e : h2 t = h t) : TK g h2 t := by
  unfold TK at Z ⊢
  rw [e]; exact Z
theorem S16 {g : KG} {h : KH} {l : Int} (hl : 0 ≤ l) (lk : LK g h l) (t0 : TK g h (l + 3)) (t1 : TK g h (l + 7)) {d : Nat} {Q : Option KV → KG → KH → Prop} (hQ : ∀ h2 : KH, (∀ a, (a < l ∨ l + 12 < a) → h2 a = h a) → LK g h2 l → TI g h2 (l + 3) PL.empty 0 → TI g h2 (l + 7) PL.empty 1 → h2 l 0 = 0 → h2 l 5 = 0 → h2 l 8 = 10 → h2 l 9 = 14 → h2 l 10 = 2 → Q none g h2) : Cl (d + 2) 16 [xR l] g h Q := by
  rw [E16, ga lk.k0, ga lk.k0, ga lk.k0, ga lk.k0, ga lk.k0, ga lk.k0]
  generalize e1 : hset (hset (hset (hset (hset h l 0 0) l 5 0) l 8 10) l 9 14) l 10 2 = h1
  have f1 : ∀ a, a ≠ l → h1 a = h a := fun a ha => by rw [← e1, hset_a _ _ _ ha, hset_a _ _ _ ha, hset_a _ _ _ ha, hset_a _ _ _ ha, hset_a _ _ _ ha]
  have j1 : ∀ j, (j = 1 ∨ j = 2 ∨ j = 3 ∨ j = 4 ∨ j = 6 ∨ j = 7) → h1 l j = h l j := fun j hj => by rw [← e1, hset_i _ _ (by omega), hset_i _ _ (by omega), hset_i _ _ (by omega), hset_i _ _ (by omega), hset_i _ _ (by omega)]
  have v0 : h1 l 0 = 0 := by rw [← e1, hset_i _ _ (by decide), hset_i _ _ (by decide), hset_i _ _ (by decide), hset_i _ _ (by decide), hset_e]
  have v5 : h1 l 5 = 0 := by rw [← e1, hset_i _ _ (by decide), hset_i _ _ (by decide), hset_i _ _ (by decide), hset_e]
  have v8 : h1 l 8 = 10 := by rw [← e1, hset_i _ _ (by decide), hset_i _ _ (by decide), hset_e]
  have v9 : h1 l 9 = 14 := by rw [← e1, hset_i _ _ (by decide), hset_e]
  have v10 : h1 l 10 = 2 := by rw [← e1, hset_e]
  have lk1 := lk.keep2 j1
  have K0 : TK g h1 (l + 3) := t0.keep (fun a x0 x1 => f1 a (by omega))
  rw [lk1.p3, ga K0.k0]
  refine S66 (by omega) K0 (fun h2 f2 c2 => ?_)
  have y2 : h2 l = h1 l := f2 l (by omega) (by omega)
  have lk2 := lk1.keep2 (h2 := h2) (fun j _ => by rw [y2])
  have K1 : TK g h2 (l + 7) := t1.keep (fun a x0 x1 => by rw [f2 a (by omega) (by omega), f1 a (by omega)])
  rw [o0, List.nil_append, B16_34, ga lk.k0, lk2.p4, ga K1.k0]
  refine S66 (by omega) K1 (fun h3 f3 c3 => ?_)
  have y3 : h3 l = h1 l := by rw [f3 l (by omega) (by omega), y2]
  rw [o0, List.nil_append, B16_41]
  refine hQ h3 (fun a ha => by rw [f3 a (by omega) (by omega), f2 a (by omega) (by omega), f1 a (by omega)]) (lk1.keep2 (fun j _ => by rw [y3])) ⟨t0.keep2 (by rw [f3 _ (by omega) (by omega), f2 _ (by omega) (by omega), f1 _ (by omega)]), fun q q0 q1 => ?_, fun q q0 q1 => ?_, fun q r a hq => absurd hq (by unfold inq; show ¬ (0 ≤ q ∧ q < 0); omega)⟩ ⟨t1.keep2 (by rw [f3 _ (by omega) (by omega), f2 _ (by omega) (by omega), f1 _ (by omega)]), fun q q0 q1 => ?_, fun q q0 q1 => ?_, fun q r a hq => absurd hq (by unfold inq; show ¬ (0 ≤ q ∧ q < 0); omega)⟩ (by rw [y3, v0]) (by rw [y3, v5]) (by rw [y3, v8]) (by rw [y3, v9]) (by rw [y3, v10])
  · rw [f3 _ (by omega) (by omega)]; exact (c2 q q0 q1).1
  · rw [f3 _ (by omega) (by omega)]; exact (c2 q q0 q1).2
  · exact (c3 q q0 q1).1
  · exact (c3 q q0 q1).2
theorem kd_e {t : Int → Int} {n p : Nat} (h : n ≤ p) : kd t n p = 0 := by unfold kd; rw [if_pos h]
theorem S26 {g : KG} (G : GT g) (k4 : gK g 4 = 4) {h : KH} {l : Int} (hl : l = 7 ∨ l = 39) (lk : LK g h l) (t0 : TK g h (l + 3)) (t1 : TK g h (l + 7)) (r0 : h 4 0 = 2) (h20 : h 2 0 = 3) {t : Int → Int} {n : Nat} (ht : ∀ k : Nat, k < n → h 3 (k : Int) = t (k : Int)) (n7 : n ≤ 700) {Z : Sum PL (Int × Int)} (eZ : sLand t n 701 PL.empty (skp t n 0) = Z) {d : Nat} {Q : Option KV → KG → KH → Prop} (hb : ∀ k pl, Z = .inr (k, pl) → ∀ h2 : KH, FL l h h2 → LJ g h2 l → KF h2 n k pl → Q (some (xI 0)) g h2) (hQ : ∀ L p, Z = .inl L → L.Ok → ∀ h2 : KH, FL l h h2 → LR g h2 l L.A → h2 4 0 = 2 → KP h2 t n p → Q (some (xI 1)) g h2) : Cl (d + 6) 26 [xR 4, xR l, xI n] g h Q := by
  have hl0 : 7 ≤ l := by omega
  have a5 : l + 3 + 2 = l + 5 := by omega
  have a6 : l + 3 + 3 = l + 6 := by omega
  have a9 : l + 7 + 2 = l + 9 := by omega
  have a10 : l + 7 + 3 = l + 10 := by omega
  -- the end, with a fault
  have fin : ∀ (h1 : KH) (kk pl i : Int) (x4 : KV), FL l h h1 → LJ g h1 l → KF h1 n kk pl → Z = .inr (kk, pl) → Rn (d + 5) 26 174 [xR 4, xR l, xI n, xI i, x4, xU] [] g h1 Q := by
    intro h1 kk pl i x4 F1 J X ez
    rw [B26_174, ga J.lk.k0]
    refine S19 (by omega) J.lk J.nq J.ch J.t0 J.t1 (fun h2 f2 c2 => ?_)
    have J2 : LJ g h2 l := J.upd (f2 _ (by omega) (by omega)) (f2 _ (by omega) (by omega)) (f2 _ (by omega) (by omega)) (by rw [f2 4 (by omega) (by omega)]) (fun j hj => by rw [f2 l (by omega) (by omega)])
    have X2 : KF h2 n kk pl := X.keep (f2 2 (by omega) (by omega))
    rw [o0, List.nil_append, B26_178, ga k4, J2.r0, ga G.k2]
    refine F74 G X2 ?_
    rw [o1, List.cons_append, List.nil_append, B26_185, ga (by decide)]
    exact hb kk pl ez h2 (fun a a2 a4 al => by rw [f2 a (by omega) (by omega), F1 a a2 a4 al]) J2 X2
  -- the end, sound
  have fin2 : ∀ (h1 : KH) (L : PL) (p : Nat) (i : Int) (x4 : KV), FL l h h1 → LI g h1 l L → L.Ok → KP h1 t n p → Z = .inl L → Rn (d + 5) 26 174 [xR 4, xR l, xI n, xI i, x4, xU] [] g h1 Q := by
    intro h1 L p i x4 F1 I P T ez
    have J := I.j P
    rw [B26_174, ga J.lk.k0]
    refine S19 (by omega) J.lk J.nq J.ch J.t0 J.t1 (fun h2 f2 c2 => ?_)
    rw [I.nq] at c2
    have lk2 := J.lk.keep2 (h2 := h2) (fun j _ => by rw [f2 l (by omega) (by omega)])
    have y2 : h2 l = h1 l := f2 l (by omega) (by omega)
    have T2 : KP h2 t n p := T.keep (f2 2 (by omega) (by omega)) (f2 3 (by omega) (by omega))
    have r2 : h2 4 0 = 2 := by rw [f2 4 (by omega) (by omega)]; exact I.r0
    have tl : TR g h2 (l + 3) L.A 0 := by
      refine I.t0.tr P (Or.inl rfl) (f2 _ (by omega) (by omega)) (f2 _ (by omega) (by omega)) (fun q hq => ?_)
      have c := c2 q hq.1 hq.2
      rw [I.ch q hq] at c
      rw [a5, a6]
      exact ⟨c.1, c.2.1⟩
    have tm : TR g h2 (l + 7) L.A 1 := by
      refine I.t1.tr P (Or.inr rfl) (f2 _ (by omega) (by omega)) (f2 _ (by omega) (by omega)) (fun q hq => ?_)
      have c := c2 q hq.1 hq.2
      rw [I.ch q hq] at c
      rw [a9, a10]
      exact ⟨c.2.2.1, c.2.2.2⟩
    rw [o0, List.nil_append, B26_178, ga k4, r2, ga G.k2]
    refine T74 G T2 ?_
    rw [o1, List.cons_append, List.nil_append, B26_185, ga (by decide)]
    refine hQ L p ez P h2 (fun a a2 a4 al => by rw [f2 a (by omega) (by omega), F1 a a2 a4 al]) ⟨lk2, by rw [y2]; exact I.nq, by rw [y2]; exact I.nd, by rw [y2]; exact I.wk, by rw [y2]; exact I.ca, by rw [y2]; exact I.cm, ?_, tl, tm, ?_, ?_⟩ r2 T2
    · rw [f2 _ (by omega) (by omega)]; exact I.ch
    · rw [f2 _ (by omega) (by omega)]; exact I.dx
    · rw [f2 _ (by omega) (by omega)]; exact I.dy
  -- the loop
  have lp : ∀ k i : Nat, i + k = 700 → ∀ (L : PL) (p : Nat) (h1 : KH) (x4 : KV), i ≤ p → p ≤ n → FL l h h1 → LI g h1 l L → L.Ok → KP h1 t n p → sLand t n (k + 1) L p = Z → Rn (d + 5) 26 24 [xR 4, xR l, xI n, xI (i : Int), x4, xU] [] g h1 Q := by
    intro k
    induction k with
    | zero =>
      intro i hi L p h1 x4 ip pn F1 I P T e
      unfold sLand at e
      rw [if_pos (kd_e (by omega))] at e
      rw [B26_24, if_pos (by omega)]
      exact fin2 h1 L p _ _ F1 I P T e.symm
    | succ k ih =>
      intro i hi L p h1 x4 ip pn F1 I P T e
      have e1 : ((i : Int) + 1) = ((i + 1 : Nat) : Int) := by omega
      unfold sLand at e
      rw [B26_24, if_neg (by omega), ga k4, I.r0, ga G.k2]
      refine T75 G T ?_
      rw [o1, List.cons_append, List.nil_append, B26_38]
      by_cases k0 : kd t n p = 0
      · rw [if_pos k0] at e
        rw [bzf (fun y => y k0), if_pos rfl]
        exact fin2 h1 L p _ _ F1 I P T e.symm
      · rw [if_neg k0] at e
        rw [bzt k0, if_neg (by decide), ga k4, I.r0, ga G.k2, T.td.wd]
        have aft : ∀ h2 : KH, FL l h1 h2 → LPo g l t n (sPart t n L p) h2 → Rn (d + 5) 26 168 [xR 4, xR l, xI n, xI (i : Int), xL (wdv t n p), xU] [] g h2 Q := by
          intro h2 F2 z
          have F3 : FL l h h2 := fun a a2 a4 al => by rw [F2 a a2 a4 al, F1 a a2 a4 al]
          rw [B26_168, w32_id (by omega) (by omega), e1]
          rcases hsp : sPart t n L p with ⟨L2, p2⟩ | ⟨kk, pl⟩
          · rw [hsp] at z e
            have ok := sPart_i P pn k0 hsp
            exact ih (i + 1) (by omega) L2 p2 h2 _ (by omega) ok.2.2 F3 z.1 ok.1 z.2 e
          · rw [hsp] at z e
            rw [B26_24]
            split
            · exact fin h2 kk pl _ _ F3 z.1 z.2 e.symm
            · rw [ga k4, z.1.r0, ga G.k2]
              refine F75 G z.2 ?_
              rw [o1, List.cons_append, List.nil_append, B26_38, if_pos rfl]
              exact fin h2 kk pl _ _ F3 z.1 z.2 e.symm
        simp only [c64eq, ne_eq]
        unfold sPart at aft
        by_cases w1 : wdv t n p = 6386539
        · rw [if_neg (fun y => y w1), ga k4]
          rw [if_pos w1] at aft
          refine S27 G k4 hl I P T (fun h2 F2 z => ?_)
          rw [o0, List.nil_append, B26_64]
          exact aft h2 F2 z
        rw [if_pos w1]
        rw [if_neg w1] at aft
        by_cases w2 : wdv t n p = 7102839
        · rw [if_neg (fun y => y w2), ga I.lk.k0, I.lk.p3, ga k4]
          rw [if_pos w2] at aft
          refine S28 G k4 hl I P T (Or.inl ⟨rfl, rfl⟩) (fun h2 F2 z => ?_)
          rw [o0, List.nil_append, B26_85]
          exact aft h2 F2 z
        rw [if_pos w2]
        rw [if_neg w2] at aft
        by_cases w3 : wdv t n p = 1835626084
        · rw [if_neg (fun y => y w3), ga I.lk.k0, I.lk.p4, ga k4]
          rw [if_pos w3] at aft
          refine S28 G k4 hl I P T (Or.inr ⟨rfl, rfl⟩) (fun h2 F2 z => ?_)
          rw [o0, List.nil_append, B26_106]
          exact aft h2 F2 z
        rw [if_pos w3]
        rw [if_neg w3] at aft
        by_cases w4 : wdv t n p = 1685024626
        · rw [if_neg (fun y => y w4), ga k4]
          rw [if_pos w4] at aft
          refine S32 G k4 hl I P T (fun h2 F2 z => ?_)
          rw [o0, List.nil_append, B26_123]
          exact aft h2 F2 z
        rw [if_pos w4]
        rw [if_neg w4] at aft
        by_cases w5 : wdv t n p = 2002873451
        · rw [if_neg (fun y => y w5), ga k4]
          rw [if_pos w5] at aft
          refine S33 G k4 hl I P T (fun h2 F2 z => ?_)
          rw [o0, List.nil_append, B26_140]
          exact aft h2 F2 z
        rw [if_pos w5]
        rw [if_neg w5] at aft
        by_cases w6 : wdv t n p = 426836649075
        · rw [if_neg (fun y => y w6), ga k4]
          rw [if_pos w6] at aft
          refine S34 G k4 hl I P T (fun h2 F2 z => ?_)
          rw [o0, List.nil_append, B26_157]
          exact aft h2 F2 z
        rw [if_pos w6, ga k4, ga G.k2]
        rw [if_neg w6] at aft
        refine T78 G T (by decide) (fun h2 f2 X => ?_)
        rw [o0, List.nil_append]
        exact aft h2 ((FL.rfl_ l h1).tok f2) (lp_r ((I.tok hl f2).j P) X)
  rw [E26, ga lk.k0]
  refine S16 (by omega) lk t0 t1 (fun h1 f1 lk1 T0 T1 v0 v5 v8 v9 v10 => ?_)
  have y4 : h1 4 = h 4 := f1 4 (by omega)
  have e40 : hset (hset h1 4 1 0) 4 2 0 4 0 = 2 := by rw [hset_i _ _ (by decide), hset_i _ _ (by decide), y4, r0]
  rw [o0, List.nil_append, B26_4, ga ⟨k4, by decide, by decide⟩, ga ⟨k4, by decide, by decide⟩, ga k4, e40, ga G.k2]
  have f2 : ∀ a, a ≠ 4 → (hset (hset h1 4 1 0) 4 2 0) a = h1 a := fun a ha => by rw [hset_a _ _ _ ha, hset_a _ _ _ ha]
  have v1 : hset (hset h1 4 1 0) 4 2 0 4 1 = 0 := by rw [hset_i _ _ (by decide), hset_e]
  have v2 : hset (hset h1 4 1 0) 4 2 0 4 2 = 0 := hset_e _ _ _ _
  generalize hset (hset h1 4 1 0) 4 2 0 = h2 at *
  have y3 : h2 3 = h 3 := by rw [f2 3 (by decide), f1 3 (by omega)]
  refine S73 G (t := t) (fun k hk => by rw [y3]; exact ht k hk) n7 (by rw [f2 2 (by decide), f1 2 (by omega)]; exact h20) (fun h3 f3 T3 => ?_)
  have F3 : FL l h h3 := fun a a2 a4 al => by rw [f3 a a2, f2 a a4, f1 a al]
  have z1 : ∀ a, a ≠ 2 → a ≠ 4 → h3 a = h1 a := fun a a2 a4 => by rw [f3 a a2, f2 a a4]
  have yl : h3 l = h1 l := z1 l (by omega) (by omega)
  have y44 : h3 4 = h2 4 := f3 4 (by decide)
  have I3 : LI g h3 l PL.empty := ⟨lk1.keep2 (fun j _ => by rw [yl]), by rw [yl]; exact v0, by rw [yl]; exact v5, by rw [yl]; exact v8, by rw [yl]; exact v9, by rw [yl]; exact v10, fun q hq => absurd hq (by unfold inq; show ¬ (0 ≤ q ∧ q < 0); omega), fun q hq => absurd hq (by unfold inq; show ¬ (0 ≤ q ∧ q < 0); omega), fun i i0 i1 => absurd i1 (by show ¬ (i < 0); omega), fun i i0 i1 => absurd i1 (by show ¬ (i < 0); omega), T0.keep (fun a x0 x1 => z1 a (by omega) (by omega)), T1.keep (fun a x0 x1 => z1 a (by omega) (by omega)), by rw [y44, e40], by rw [y44, v1]; rfl, by rw [y44, v2]; rfl⟩
  rw [o0, List.nil_append, B26_22]
  exact lp 700 0 (by omega) PL.empty _ h3 _ (by omega) (skp_r _ (by omega)).2 F3 I3 PL.empty_ok T3 eZ
