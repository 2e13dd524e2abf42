/-! a table, on the class's side -/
theorem TI.other {g : KG} {h : KH} {tt : Int} {L : PL} {m m2 q b : Int} {w : Int → Int → Int} (T : TI g h tt L m2) (hm : m2 ≠ m) : TI g h tt (L.tab m q b w) m2 := by
  have e1 : ∀ q2, (L.tab m q b w).A.gb m2 q2 = L.A.gb m2 q2 := fun q2 => if_neg (fun z => hm z.1)
  have e2 : ∀ q2, (L.tab m q b w).tq m2 q2 = L.tq m2 q2 := fun q2 => if_neg (fun z => hm z.1)
  have e3 : ∀ q2 r a, (L.tab m q b w).A.wt m2 q2 r a = L.A.wt m2 q2 r a := fun q2 r a => if_neg (fun z => hm z.1)
  have e4 : ∀ q2, (L.tab m q b w).A.rows m2 q2 = L.A.rows m2 q2 := fun q2 => by unfold St.rows; rw [e1]; rfl
  refine ⟨T.tk, fun q2 q0 q1 => by rw [e1]; exact T.b q2 q0 q1, fun q2 q0 q1 => by rw [e2]; exact T.o q2 q0 q1, fun q2 r a hq ht r0 r1 a0 a1 => ?_⟩
  rw [e2] at ht
  rw [e4] at r1
  rw [e3]
  exact T.w q2 r a hq ht r0 r1 a0 a1
theorem TI.own {g : KG} {h h2 : KH} {tt : Int} {L : PL} {m q b : Int} {w : Int → Int → Int} (P : L.Ok) (T : TI g h tt L m) (hq : inq L.A q) (e0 : h2 tt = h tt) (b1 : ∀ j, j ≠ q → h2 (tt + 1) j = h (tt + 1) j) (b2 : h2 (tt + 1) q = b) (u1 : ∀ j, j ≠ q → h2 (tt + 2) j = h (tt + 2) j) (u2 : h2 (tt + 2) q = 1) (w1 : ∀ j, (j < 16 * q ∨ 16 * q + 16 ≤ j) → h2 (tt + 3) j = h (tt + 3) j) (hm : bit1 m) (w2 : ∀ r a, 0 ≤ r → r < (if b = -1 then 1 else L.A.ch b) → 0 ≤ a → a < L.A.ch q → h2 (tt + 3) (16 * q + 4 * r + a) = w r a) : TI g h2 tt (L.tab m q b w) m := by
  have O := P.O
  refine ⟨?_, fun q2 q0 q1 => ?_, fun q2 q0 q1 => ?_, fun q2 r a hq2 ht r0 r1 a0 a1 => ?_⟩
  · have Z := T.tk
    unfold TK at Z ⊢
    rw [e0]; exact Z
  · show _ = if m = m ∧ q2 = q then b else L.A.gb m q2
    by_cases e : q2 = q
    · rw [if_pos ⟨rfl, e⟩, e, b2]
    · rw [if_neg (fun z => e z.2), b1 q2 e]; exact T.b q2 q0 q1
  · show _ = if m = m ∧ q2 = q then 1 else L.tq m q2
    by_cases e : q2 = q
    · rw [if_pos ⟨rfl, e⟩, e, u2]
    · rw [if_neg (fun z => e z.2), u1 q2 e]; exact T.o q2 q0 q1
  · show _ = if m = m ∧ q2 = q then w r a else L.A.wt m q2 r a
    have r1 : r < (if (if m = m ∧ q2 = q then b else L.A.gb m q2) = -1 then 1 else L.A.ch (if m = m ∧ q2 = q then b else L.A.gb m q2)) := r1
    have a1 : a < L.A.ch q2 := a1
    have ht : (if m = m ∧ q2 = q then 1 else L.tq m q2) = 1 := ht
    by_cases e : q2 = q
    · rw [if_pos (show m = m ∧ q2 = q from ⟨rfl, e⟩)] at r1 ⊢
      rw [e] at a1 ⊢
      exact w2 r a r0 r1 a0 a1
    · rw [if_neg (show ¬ (m = m ∧ q2 = q) from fun z => e z.2)] at r1 ht ⊢
      have c := O.ch q2 hq2
      have rr : r < 4 := by
        rcases O.gb m q2 hm hq2 with z | z
        · rw [if_pos z] at r1; omega
        · have c2 := O.ch (L.A.gb m q2) ⟨z.1, by have := hq2.2; have : q2 < L.A.nq := this; omega⟩
          rw [if_neg (by omega)] at r1; omega
      rw [w1 _ (by omega)]
      exact T.w q2 r a hq2 ht r0 r1 a0 a1
theorem S20n {g : KG} {h : KH} {l : Int} (J : LK g h l) {tt q : Int} (K0 : TK g h tt) (hq : 0 ≤ q ∧ q < 6) (hb : h (tt + 1) q = -1 ∨ (0 ≤ h (tt + 1) q ∧ h (tt + 1) q < 6)) {d : Nat} {Q : Option KV → KG → KH → Prop} (hQ : Q (some (xI (if h (tt + 1) q = -1 then 1 else h (l + 2) (h (tt + 1) q)))) g h) : Cl (d + 1) 20 [xR l, xR tt, xI q] g h Q := by
  rw [E20, ga K0.k0, K0.p0, ga ⟨K0.k1, hq.1, by rw [K0.l1]; omega⟩]
  by_cases z : h (tt + 1) q = -1
  · rw [if_pos z] at hQ
    rw [if_neg (fun y => y z), B20_22]
    exact hQ
  · rw [if_neg z] at hQ
    rw [if_pos z, ga J.k0, J.p2, ga ⟨J.k2, by omega, by rw [J.l2]; omega⟩, B20_22]
    exact hQ
theorem S28 {g : KG} (G : GT g) (k4 : gK g 4 = 4) {h : KH} {l : Int} (hl : l = 7 ∨ l = 39) {L : PL} (I : LI g h l L) (P : L.Ok) {t : Int → Int} {n p : Nat} (T : KP h t n p) {m tt : Int} (hm : (m = 0 ∧ tt = l + 3) ∨ (m = 1 ∧ tt = l + 7)) {d : Nat} {Q : Option KV → KG → KH → Prop} (hQ : ∀ h2 : KH, FL l h h2 → LPo g l t n (sTab t n m L p) h2 → Q none g h2) : Cl (d + 5) 28 [xR 4, xR l, xR tt] g h Q := by
  have O := P.O
  have h6 := O.nq
  have bm : bit1 m := by rcases hm with z | z <;> (unfold bit1; omega)
  have TT : ∀ h1, LI g h1 l L → TI g h1 tt L m := by
    intro h1 I1
    rcases hm with z | z
    · rw [z.1, z.2]; exact I1.t0
    · rw [z.1, z.2]; exact I1.t1
  have K0 := (TT h I).tk
  have hl0 : 7 ≤ l := by omega
  have ht0 : l + 3 ≤ tt ∧ tt ≤ l + 7 := by omega
  have x31 : l + 3 ≠ tt + 1 := by omega
  have x32 : l + 3 ≠ tt + 2 := by omega
  have x33 : l + 3 ≠ tt + 3 := by omega
  have x71 : l + 7 ≠ tt + 1 := by omega
  have x72 : l + 7 ≠ tt + 2 := by omega
  have x73 : l + 7 ≠ tt + 3 := by omega
  unfold sTab at hQ
  rw [E28, ga k4, I.r0, ga G.k2]
  refine T79 G T (fun h1 f1 T1 => ?_)
  have I1 := I.tok hl f1
  have F1 := (FL.rfl_ l h).tok f1
  generalize nxt t n p = p1 at *
  rw [o0, List.nil_append, B28_7, ga I1.lk.k0, I1.nq, ga k4]
  refine S29 G k4 I1 P T1 ⟨h6.1, Int.le_refl _⟩ (fun c1 h2 f2 X => ?_) (fun c1 c2 h2 f2 X => ?_) (fun c1 c2 => ?_)
  · rw [if_pos c1] at hQ
    rw [o1, List.cons_append, List.nil_append, B28_16, if_neg (fun z => z rfl)]
    exact hQ h2 (F1.tok f2) (lp_r ((I1.tok hl f2).j P) X)
  · rw [if_neg (fun z => z c1), if_pos c2] at hQ
    rw [o1, List.cons_append, List.nil_append, B28_16, if_neg (fun z => z rfl)]
    exact hQ h2 (F1.tok f2) (lp_r ((I1.tok hl f2).j P) X)
  rw [if_neg (fun z => z c1), if_neg c2] at hQ
  have fr := fnd_r L.na (wdv t n p1) L.A.nq.toNat 0
  generalize fnd L.na (wdv t n p1) L.A.nq.toNat 0 = q at *
  have hq : inq L.A q := ⟨by omega, by omega⟩
  have q6 : 0 ≤ q ∧ q < 6 := by omega
  have qn : q < L.A.nq := hq.2
  have hc := O.ch q hq
  have T1T := TT h1 I1
  have K1 := T1T.tk
  have told := T1T.o q q6.1 q6.2
  clear fr
  rw [o1, List.cons_append, List.nil_append, B28_16, if_pos c2, ga K1.k0, K1.p1, ga ⟨Or.inr K1.k2, q6.1, by rw [K1.l2]; omega⟩, told]
  by_cases c3 : L.tq m q = 0
  · rw [if_neg (fun z => z c3)] at hQ
    have gb0 := (P.ut m q bm hq c3).1
    have r2 : hset h1 (tt + 2) q 1 4 0 = 2 := by rw [hset_a _ _ _ (by omega)]; exact I1.r0
    rw [if_pos c3, ga K1.k0, ga ⟨Or.inr ⟨K1.k2, by decide, by decide⟩, q6.1, by rw [K1.l2]; omega⟩, ga k4, r2, ga G.k2]
    have J2 : LJ g (hset h1 (tt + 2) q 1) l := (I1.j P).upd (hset_a _ _ _ (by omega)) (hset_a _ _ _ x32) (hset_a _ _ _ x72) (by rw [hset_a _ _ _ (by omega)]) (fun j hj => by rw [hset_a _ _ _ (by omega)])
    have F2 : FL l h (hset h1 (tt + 2) q 1) := fun a a2 a4 al => by rw [hset_a _ _ _ (by omega), F1 a a2 a4 al]
    have T2 := T1.s (a := tt + 2) (j := q) (v := 1) (by omega) (by omega)
    have d2 : ∀ a, a ≠ 2 → a ≠ tt + 2 → (hset h1 (tt + 2) q 1) a = h a := fun a a2 at2 => by rw [hset_a _ _ _ at2, f1 a a2]
    have w2 : ∀ j, (hset h1 (tt + 2) q 1) (tt + 2) j = if j = q then 1 else h (tt + 2) j := by
      intro j
      split
      · rename_i e; rw [e, hset_e]
      · rename_i e; rw [hset_i _ _ e, f1 (tt + 2) (by omega)]
    generalize hset h1 (tt + 2) q 1 = h2 at *
    refine T79 G T2 (fun h3 f3 T3 => ?_)
    have J3 := J2.tok hl f3
    have F3 := F2.tok f3
    have d3 : ∀ a, a ≠ 2 → a ≠ tt + 2 → h3 a = h a := fun a a2 at2 => by rw [f3 a a2, d2 a a2 at2]
    have w3 : ∀ j, h3 (tt + 2) j = if j = q then 1 else h (tt + 2) j := fun j => by rw [f3 (tt + 2) (by omega), w2]
    generalize nxt t n p1 = p2 at *
    -- from the weights on
    have weights : ∀ (h4 : KH) (b : Int) (p4 : Nat), (b = -1 ∨ (0 ≤ b ∧ b < q)) → LJ g h4 l → FL l h h4 → KP h4 t n p4 → (∀ a, a ≠ 2 → a ≠ tt + 1 → a ≠ tt + 2 → h4 a = h a) → (∀ j, j ≠ q → h4 (tt + 1) j = h (tt + 1) j) → h4 (tt + 1) q = b → (∀ j, h4 (tt + 2) j = if j = q then 1 else h (tt + 2) j) → (∀ h5 : KH, FL l h h5 → LPo g l t n (sWs t n (L.A.ch q) (fun w p2 => sEnd t n (L.tab m q b w) p2) ((if b = -1 then 1 else L.A.ch b) * L.A.ch q).toNat (fun _ _ => 0) 0 0 0 p4) h5 → Q none g h5) → Rn (d + 4) 28 95 [xR 4, xR l, xR tt, xI q] [] g h4 Q := by
      intro h4 b p4 hb J4 F4 T4 d4 b4 bq4 w4 hz
      have K4 : TK g h4 tt := by
        have Z := K0
        unfold TK at Z ⊢
        rw [d4 tt (by omega) (by omega) (by omega)]; exact Z
      have I4c : h4 (l + 2) = h (l + 2) := d4 (l + 2) (by omega) (by omega) (by omega)
      rw [B28_95, ga k4, J4.r0, ga G.k2]
      refine T74 G T4 ?_
      rw [o1, List.cons_append, List.nil_append, B28_102, if_neg (by decide), ga J4.lk.k0, J4.lk.p2, ga ⟨J4.lk.k2, q6.1, by rw [J4.lk.l2]; omega⟩, ga J4.lk.k0, I4c, I.ch q hq]
      refine S20n J4.lk K4 q6 (by rw [bq4]; omega) ?_
      have eR : (if h4 (tt + 1) q = -1 then 1 else h4 (l + 2) (h4 (tt + 1) q)) = if b = -1 then 1 else L.A.ch b := by
        rw [bq4, I4c]
        split
        · rfl
        · exact I.ch b ⟨by omega, by omega⟩
      have hR : 1 ≤ (if b = -1 then 1 else L.A.ch b) ∧ (if b = -1 then 1 else L.A.ch b) ≤ 4 := by
        split
        · decide
        · have := O.ch b ⟨by omega, by omega⟩
          omega
      rw [eR, o1, List.cons_append, List.nil_append, B28_120, ga k4]
      generalize eZ : sWs t n (L.A.ch q) (fun w p2 => sEnd t n (L.tab m q b w) p2) ((if b = -1 then 1 else L.A.ch b) * L.A.ch q).toNat (fun _ _ => 0) 0 0 0 p4 = Z at hz
      refine S31 G k4 J4.r0 (by omega) K4 T4 q6 hc hR eZ (fun kk pl ez h5 f5 X => ?_) (fun w p5 ez h5 f5 cl T5 => ?_)
      · rw [ez] at hz
        rw [o0, List.nil_append, B28_123]
        refine hz h5 (fun a a2 a4 al => by rw [f5.1 a a2 (by omega), F4 a a2 a4 al]) (lp_r ?_ X)
        exact J4.upd (f5.1 _ (by omega) (by omega)) (f5.1 _ (by omega) x33) (f5.1 _ (by omega) x73) (by rw [f5.1 4 (by omega) (by omega)]) (fun j hj => by rw [f5.1 l (by omega) (by omega)])
      · rw [ez] at hz
        rw [o0, List.nil_append, B28_123]
        have dd : ∀ a, a ≠ 2 → a ≠ tt + 1 → a ≠ tt + 2 → a ≠ tt + 3 → h5 a = h a := fun a a2 x1 x2 x3 => by rw [f5.1 a a2 x3, d4 a a2 x1 x2]
        have own : TI g h5 tt (L.tab m q b w) m := TI.own P (TT h I) hq (dd tt (by omega) (by omega) (by omega) (by omega)) (fun j hj => by rw [f5.1 (tt + 1) (by omega) (by omega), b4 j hj]) (by rw [f5.1 (tt + 1) (by omega) (by omega), bq4]) (fun j hj => by rw [f5.1 (tt + 2) (by omega) (by omega), w4, if_neg hj]) (by rw [f5.1 (tt + 2) (by omega) (by omega), w4, if_pos rfl]) (fun j hj => by rw [f5.2 j hj, d4 (tt + 3) (by omega) (by omega) (by omega)]) bm cl
        refine hz h5 (fun a a2 a4 al => by rw [f5.1 a a2 (by omega), F4 a a2 a4 al]) (lp_l ⟨I.lk.keep2 (fun j hj => by rw [dd l (by omega) (by omega) (by omega) (by omega)]), ?_, ?_, ?_, ?_, ?_, ?_, ?_, ?_, ?_, ?_, ?_, ?_, ?_, ?_⟩ T5)
        · rw [dd l (by omega) (by omega) (by omega) (by omega)]; exact I.nq
        · rw [dd l (by omega) (by omega) (by omega) (by omega)]; exact I.nd
        · rw [dd l (by omega) (by omega) (by omega) (by omega)]; exact I.wk
        · rw [dd l (by omega) (by omega) (by omega) (by omega)]; exact I.ca
        · rw [dd l (by omega) (by omega) (by omega) (by omega)]; exact I.cm
        · rw [dd (l + 1) (by omega) (by omega) (by omega) (by omega)]; exact I.na
        · rw [dd (l + 2) (by omega) (by omega) (by omega) (by omega)]; exact I.ch
        · rw [dd (l + 11) (by omega) (by omega) (by omega) (by omega)]; exact I.dx
        · rw [dd (l + 12) (by omega) (by omega) (by omega) (by omega)]; exact I.dy
        · rcases hm with z | z
          · rw [z.1, z.2] at own; rw [z.1]; exact own
          · exact (I.t0.keep (fun a h0 h1 => dd a (by omega) (by omega) (by omega) (by omega))).other (by omega)
        · rcases hm with z | z
          · exact (I.t1.keep (fun a h0 h1 => dd a (by omega) (by omega) (by omega) (by omega))).other (by omega)
          · rw [z.1, z.2] at own; rw [z.1]; exact own
        · rw [dd 4 (by omega) (by omega) (by omega) (by omega)]; exact I.r0
        · rw [dd 4 (by omega) (by omega) (by omega) (by omega)]; exact I.tw
        · rw [dd 4 (by omega) (by omega) (by omega) (by omega)]; exact I.tc
    rw [o0, List.nil_append, B28_55, ga k4, J3.r0, ga G.k2, T3.td.wd]
    simp only [c64eq, ne_eq]
    by_cases c4 : wdv t n p2 = 25209
    · rw [if_pos c4] at hQ
      rw [if_neg (fun z => z c4), ga k4, ga G.k2]
      refine T79 G T3 (fun h4 f4 T4 => ?_)
      have J4 := J3.tok hl f4
      have F4 := F3.tok f4
      have d4 : ∀ a, a ≠ 2 → a ≠ tt + 2 → h4 a = h a := fun a a2 at2 => by rw [f4 a a2, d3 a a2 at2]
      have w4 : ∀ j, h4 (tt + 2) j = if j = q then 1 else h (tt + 2) j := fun j => by rw [f4 (tt + 2) (by omega), w3]
      have p40 : h4 tt 0 = tt + 1 := by rw [d4 tt (by omega) (by omega)]; exact K0.p0
      generalize nxt t n p2 = p3 at *
      have b87 : ∀ (h5 : KH) (kk pl : Int), FL l h h5 → LJ g h5 l → KF h5 n kk pl → (∀ h6 : KH, FL l h h6 → LPo g l t n (.inr (kk, pl)) h6 → Q none g h6) → Rn (d + 4) 28 87 [xR 4, xR l, xR tt, xI q] [xI (-1), xI q, xR (tt + 1)] g h5 Q := by
        intro h5 kk pl F5 J5 X5 z
        have J6 : LJ g (hset h5 (tt + 1) q (-1)) l := J5.upd (hset_a _ _ _ (by omega)) (hset_a _ _ _ x31) (hset_a _ _ _ x71) (by rw [hset_a _ _ _ (by omega)]) (fun j hj => by rw [hset_a _ _ _ (by omega)])
        have F6 : FL l h (hset h5 (tt + 1) q (-1)) := fun a a2 a4 al => by rw [hset_a _ _ _ (by omega), F5 a a2 a4 al]
        rw [B28_87, ga ⟨K0.k1, by omega, q6.1, by rw [K0.l1]; omega⟩, ga k4, J6.r0, ga G.k2]
        refine F79 G (X5.s (by omega)) (fun h7 f7 X7 => ?_)
        have J7 := J6.tok hl f7
        rw [o0, List.nil_append, B28_95, ga k4, J7.r0, ga G.k2]
        refine F74 G X7 ?_
        rw [o1, List.cons_append, List.nil_append, B28_102, if_pos rfl, B28_123]
        exact z h7 (F6.tok f7) (lp_r J7 X7)
      rw [o0, List.nil_append, B28_76, ga K0.k0, p40, ga k4]
      have kn : ∀ Q2 : Option KV → KG → KH → Prop, (¬ isnmD (wdv t n p3) → ∀ h5 : KH, (∀ a, a ≠ 2 → h5 a = h4 a) → KF h5 n (flt t n p3 2) p3 → Q2 (some (xI (-1))) g h5) → (isnmD (wdv t n p3) → fnd L.na (wdv t n p3) q.toNat 0 = -1 → ∀ h5 : KH, (∀ a, a ≠ 2 → h5 a = h4 a) → KF h5 n (flt t n p3 3) p3 → Q2 (some (xI (-1))) g h5) → (isnmD (wdv t n p3) → fnd L.na (wdv t n p3) q.toNat 0 ≠ -1 → Q2 (some (xI (fnd L.na (wdv t n p3) q.toNat 0))) g h4) → Cl (d + 4) 29 [xR 4, xR l, xI q] g h4 Q2 := by
        intro Q2 a1 a2 a3
        exact S29n G k4 J4.lk (by rw [d4 l (by omega) (by omega)]; exact I.nq) (by rw [d4 (l + 1) (by omega) (by omega)]; exact I.na) J4.r0 P T4 ⟨q6.1, by omega⟩ a1 a2 a3
      refine kn _ (fun c5 h5 f5 X => ?_) (fun c5 c6 h5 f5 X => ?_) (fun c5 c6 => ?_)
      · rw [if_pos c5] at hQ
        rw [o1, List.cons_append, List.nil_append]
        exact b87 h5 _ _ (F4.tok f5) (J4.tok hl f5) X hQ
      · rw [if_neg (fun z => z c5), if_pos c6] at hQ
        rw [o1, List.cons_append, List.nil_append]
        exact b87 h5 _ _ (F4.tok f5) (J4.tok hl f5) X hQ
      · rw [if_neg (fun z => z c5), if_neg c6] at hQ
        have fb := fnd_r L.na (wdv t n p3) q.toNat 0
        generalize fnd L.na (wdv t n p3) q.toNat 0 = b at *
        have hb : 0 ≤ b ∧ b < q := by omega
        clear fb
        have J6 : LJ g (hset h4 (tt + 1) q b) l := J4.upd (hset_a _ _ _ (by omega)) (hset_a _ _ _ x31) (hset_a _ _ _ x71) (by rw [hset_a _ _ _ (by omega)]) (fun j hj => by rw [hset_a _ _ _ (by omega)])
        have F6 : FL l h (hset h4 (tt + 1) q b) := fun a a2 a4 al => by rw [hset_a _ _ _ (by omega), F4 a a2 a4 al]
        rw [o1, List.cons_append, List.nil_append, B28_87, ga ⟨K0.k1, by omega, q6.1, by rw [K0.l1]; omega⟩, ga k4, J6.r0, ga G.k2]
        refine T79 G (T4.s (by omega) (by omega)) (fun h7 f7 T7 => ?_)
        rw [o0, List.nil_append]
        refine weights h7 b _ (Or.inr hb) (J6.tok hl f7) (F6.tok f7) T7 (fun a a2 x1 x2 => by rw [f7 a a2, hset_a _ _ _ x1, d4 a a2 x2]) (fun j hj => by rw [f7 (tt + 1) (by omega), hset_i _ _ hj, d4 (tt + 1) (by omega) (by omega)]) (by rw [f7 (tt + 1) (by omega), hset_e]) (fun j => by rw [f7 (tt + 2) (by omega), hset_a _ _ _ (by omega), w4]) ?_
        rw [if_neg (show ¬ b = -1 by omega)]
        exact hQ
    · rw [if_neg c4] at hQ
      rw [if_pos c4]
      refine weights h3 (-1) _ (Or.inl rfl) J3 F3 T3 (fun a a2 x1 x2 => d3 a a2 x2) (fun j hj => by rw [d3 (tt + 1) (by omega) (by omega)]) (by rw [d3 (tt + 1) (by omega) (by omega), (TT h I).b q q6.1 q6.2, gb0]) w3 ?_
      rw [if_pos rfl]
      exact hQ
  · rw [if_pos c3] at hQ
    rw [if_neg c3, ga k4, I1.r0, ga G.k2]
    refine T78 G T1 (by decide) (fun h2 f2 X => ?_)
    rw [o0, List.nil_append, B28_40]
    exact hQ h2 (F1.tok f2) (lp_r ((I1.tok hl f2).j P) X)
