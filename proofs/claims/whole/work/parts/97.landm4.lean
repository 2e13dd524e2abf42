theorem M189 {g : KG} {h : KH} (K : MK g h) {t : Int → Int} {n p : Nat} (T : MP h t n p) {L : PL} (N : NI h L) (P : L.Ok) {m : Int} (hm : bit1 m) {d : Nat} {Q : Option KV → KG → KH → Prop} (hQ : MPo g t n h (sTab t n m L p) Q) : Cl (d + 4) 189 [xR 138, xI m] g h Q := by
  have O := P.O
  have n6 := O.nq
  have m1 := bit1_le hm
  have eq0 : h 139 3600 = L.A.nq := N.ms.nq
  unfold sTab at hQ
  rw [E189, ga K.k0]
  refine M176 K T (fun h1 f1 _ T1 => ?_)
  have K1 := f1.mk K
  have F1 := (FN.rfl_ h).tok f1
  generalize nxt t n p = p1 at *
  rw [o0, List.nil_append, B189_4, ga K.k0]
  refine M184 K1 T1 ?_
  rw [o1, List.cons_append, List.nil_append, B189_8]
  by_cases c1 : isnmD (wdv t n p1)
  case neg =>
    rw [if_pos c1] at hQ
    rw [bzf c1, if_neg (fun y => y rfl), ga K.k0]
    refine M179 K1 T1 (by decide) (fun h2 f2 F => ?_)
    rw [o1, List.cons_append, List.nil_append, B189_16, ga (by decide)]
    exact hQ.1 _ _ h2 rfl (F1.tok f2) F
  rw [if_neg (fun y => y c1)] at hQ
  rw [bzt c1, if_pos (by decide), ga K.k0, K1.pat, ga ⟨K.kat, by decide, by rw [K.lat]; decide⟩, ga K.k0, f1.1 139 (by decide), eq0]
  refine M186 K1 T1 c1.1 n6 (f := L.na) (fun q q0 q1 => by rw [f1.1 145 (by decide)]; exact N.na q ⟨q0, q1⟩) ?_
  rw [o1, List.cons_append, List.nil_append, B189_29]
  have fr := fnd_r L.na (wdv t n p1) L.A.nq.toNat 0
  generalize fnd L.na (wdv t n p1) L.A.nq.toNat 0 = q at *
  by_cases c2 : q = -1
  · rw [if_pos c2] at hQ
    rw [if_neg (fun y => y c2), ga K.k0]
    refine M179 K1 T1 (by decide) (fun h2 f2 F => ?_)
    rw [o1, List.cons_append, List.nil_append, B189_40, ga (by decide)]
    exact hQ.1 _ _ h2 rfl (F1.tok f2) F
  rw [if_neg c2] at hQ
  have hq : inq L.A q := ⟨by omega, by omega⟩
  have q0 := hq.1
  have q1 := hq.2
  have hq6 : 0 ≤ q ∧ q < 6 := by omega
  have hc := O.ch q hq
  have B1 := N.tb
  have x1 : h1 138 18 = h 138 18 := f1.2 18 (by decide)
  have bi := B1.bit hm hq6 (P.tb m q)
  rw [if_pos c2, w32_id (x := 2 * q) (by omega) (by omega), w32_id (x := 2 * q + m) (by omega) (by omega), ga (by omega), ga K.k0, x1]
  by_cases c3 : L.tq m q = 0
  case neg =>
    rw [if_pos c3] at hQ
    rw [if_neg (fun y => c3 (by rw [bi] at y; exact y)), ga K.k0]
    refine M179 K1 T1 (by decide) (fun h2 f2 F => ?_)
    rw [o1, List.cons_append, List.nil_append, B189_63, ga (by decide)]
    exact hQ.1 _ _ h2 rfl (F1.tok f2) F
  rw [if_neg (fun y => y c3)] at hQ
  have ut := (P.ut m q hm hq c3).1
  rw [if_pos (by rw [bi]; exact c3), ga K.k0, ga K.k0, ga K.k0]
  have Bt : ∀ b w, TB (or32 (h 138 18) (shl32 1 (2 * q + m))) (L.tab m q b w) := fun b w => B1.tab hm hq6 b w
  have T1b : MP (hset h1 138 18 (or32 (h 138 18) (shl32 1 (2 * q + m)))) t n p1 := T1.bit
  have F1b : FN h (hset h1 138 18 (or32 (h 138 18) (shl32 1 (2 * q + m)))) := F1.bit
  have gb : ∀ a, a ≠ 138 → hset h1 138 18 (or32 (h 138 18) (shl32 1 (2 * q + m))) a = h a := fun a ha => by rw [hset_a _ _ _ ha, f1.1 a ha]
  have xb : hset h1 138 18 (or32 (h 138 18) (shl32 1 (2 * q + m))) 138 18 = or32 (h 138 18) (shl32 1 (2 * q + m)) := hset_e _ _ _ _
  generalize hset h1 138 18 (or32 (h 138 18) (shl32 1 (2 * q + m))) = h1b at *
  generalize shl32 1 (2 * q + m) = bt at *
  have K1b := F1b.mk K
  refine M176 K1b T1b (fun h2 f2 _ T2 => ?_)
  have F2 := F1b.tok f2
  have K2 := F2.mk K
  have g2 : ∀ a, a ≠ 138 → h2 a = h a := fun a ha => by rw [f2.1 a ha, gb a ha]
  have x2 : h2 138 18 = or32 (h 138 18) bt := by rw [f2.2 18 (by decide), xb]
  generalize nxt t n p1 = p2 at *
  have e8 : h 139 (3608 + 3 * q) = L.A.ch q := by
    have y := N.ms.ch q hq
    rw [← y]
    show _ = h 139 (3600 + (8 + 3 * q))
    congr 1; omega
  rw [o0, List.nil_append, B189_78, ga K.k0, w32_id (x := 3 * q) (by omega) (by omega), w32_id (x := 3608 + 3 * q) (by omega) (by omega), K2.pat, ga ⟨K.kat, by omega, by rw [K.lat]; omega⟩, ga K.k0, g2 139 (by decide), e8]
  -- the weights
  have tail : ∀ (h4 : KH) (p4 : Nat) (R b : Int) (a6 : KV), FN h h4 → MP h4 t n p4 → MPo g t n h (sWs t n (L.A.ch q) (fun w p2 => sEnd t n (L.tab m q b w) p2) (R * L.A.ch q).toNat (fun _ _ => 0) 0 0 0 p4) Q → 1 ≤ R ∧ R ≤ 4 → (if b = -1 then 1 else L.A.ch b) = R → (b = -1 ∨ (0 ≤ b ∧ b < q)) → h4 145 = h 145 → h4 138 18 = or32 (h 138 18) bt → (∀ j, j ≠ 3608 + 3 * q + 1 + m → h4 139 j = h 139 j) → h4 139 (3608 + 3 * q + 1 + m) = b → Rn (d + 3) 189 178 [xR 138, xI m, xI q, xI bt, xI (L.A.ch q), xI R, a6, xU] [] g h4 Q := by
    intro h4 p4 R b a6 F4 T4 q4 hR eR hb b4 x4 o4 v4
    have K4 := F4.mk K
    have xx := mkd_2 t n p4
    rw [B189_178, ga K.k0, T4.mu.tk]
    have e0 : ((R * L.A.ch q).toNat : Int) = R * L.A.ch q := Int.toNat_of_nonneg (Int.mul_nonneg (by omega) (by omega))
    have pos : 1 ≤ R * L.A.ch q := by
      have h3 : R = 1 ∨ R = 2 ∨ R = 3 ∨ R = 4 := by omega
      rcases h3 with rfl | rfl | rfl | rfl <;> omega
    by_cases z : kd t n p4 = 2
    · rw [if_pos (by rw [xx]; exact z)]
      have l := L189 (hb := h4) (bt := bt) K4 hm hq6 hc hR (Kc := fun w p2 => sEnd t n (L.tab m q b w) p2) (d := d) (Q := Q) (zz := sWs t n (L.A.ch q) (fun w p2 => sEnd t n (L.tab m q b w) p2) (R * L.A.ch q).toNat (fun _ _ => 0) 0 0 0 p4) (t := t) (n := n)
        (fun k pl h5 e F X => q4.1 k pl h5 e (F4.tr F) X)
        (fun p5 h5 e1 e2 F X => q4.2.1 p5 h5 e1 e2 (F4.tr F) X)
        (fun w p5 h5 e F X z5 z8 zo zw => q4.2.2 (L.tab m q b w) p5 h5 e (F4.tr F) (N.tab P hm hq hb b4 (by rw [x4]; exact Bt b w) o4 v4 z5 z8 zo (by rw [eR]; exact zw)) X)
        (R * L.A.ch q).toNat (fun _ _ => 0) 0 0 0 p4 h4 rfl (by decide) (by decide) (by omega) (by rw [e0]; omega) (by decide) (by decide) (Or.inr z) (FN.rfl_ h4) T4 rfl rfl (fun _ _ => rfl) (fun r2 a2 z0 z1 z2 z3 => by omega)
      rw [show (0 : Int) * L.A.ch q + 0 = 0 by omega] at l
      exact l
    · obtain ⟨k, hk⟩ : ∃ k, (R * L.A.ch q).toNat = k + 1 := ⟨(R * L.A.ch q).toNat - 1, by omega⟩
      rw [hk] at q4
      unfold sWs at q4
      rw [if_pos z, if_neg (fun y => by have := y.2; omega)] at q4
      rw [if_neg (fun y => z (by rw [xx] at y; exact y)), ga K.k0]
      refine M179 K4 T4 (by decide) (fun h5 f5 X => ?_)
      rw [o1, List.cons_append, List.nil_append, B189_191, ga (by decide)]
      exact q4.1 _ _ h5 rfl (F4.tok f5) X
  refine M178 K2 T2 ?_
  rw [o1, List.cons_append, List.nil_append, B189_101]
  have k3 : (kyl (wdv t n p2) = 3) = (wdv t n p2 = 25209) := by
    unfold kyl
    apply propext
    constructor
    · intro y
      split at y
      · omega
      · split at y
        · omega
        · split at y
          · omega
          · split at y
            · assumption
            · split at y
              · omega
              · split at y
                · omega
                · split at y <;> omega
    · intro y
      rw [y]; decide
  have cg : h 139 (3608 + 3 * q + 1 + m) = -1 := by
    have y := N.ms.gb m q hm hq
    rw [← ut, ← y]
    show _ = h 139 (3600 + (8 + 3 * q + 1 + m))
    congr 1; omega
  by_cases c4 : wdv t n p2 = 25209
  case neg =>
    rw [if_neg c4] at hQ
    rw [if_pos (fun y => c4 (by rw [k3] at y; exact y))]
    exact tail h2 p2 1 (-1) xU F2 T2 hQ (by decide) (if_pos rfl) (Or.inl rfl) (g2 145 (by decide)) x2 (fun j _ => by rw [g2 139 (by decide)]) (by rw [g2 139 (by decide)]; exact cg)
  rw [if_pos c4] at hQ
  rw [if_neg (fun y => y (by rw [k3]; exact c4)), ga K.k0]
  refine M176 K2 T2 (fun h3 f3 _ T3 => ?_)
  have F3 := F2.tok f3
  have K3 := F3.mk K
  have g3 : ∀ a, a ≠ 138 → h3 a = h a := fun a ha => by rw [f3.1 a ha, g2 a ha]
  have x3 : h3 138 18 = or32 (h 138 18) bt := by rw [f3.2 18 (by decide), x2]
  generalize nxt t n p2 = p3 at *
  rw [o0, List.nil_append, B189_109, ga K.k0]
  refine M184 K3 T3 ?_
  rw [o1, List.cons_append, List.nil_append, B189_113]
  by_cases c5 : isnmD (wdv t n p3)
  case neg =>
    rw [if_pos c5] at hQ
    rw [bzf c5, if_neg (fun y => y rfl), ga K.k0]
    refine M179 K3 T3 (by decide) (fun h4 f4 F => ?_)
    rw [o1, List.cons_append, List.nil_append, B189_121, ga (by decide)]
    exact hQ.1 _ _ h4 rfl (F3.tok f4) F
  rw [if_neg (fun y => y c5)] at hQ
  rw [bzt c5, if_pos (by decide), ga K.k0]
  refine M186 K3 T3 c5.1 (by omega) (f := L.na) (fun r r0 r1 => by rw [g3 145 (by decide)]; exact N.na r ⟨r0, by omega⟩) ?_
  rw [o1, List.cons_append, List.nil_append, B189_127]
  have fb := fnd_r L.na (wdv t n p3) q.toNat 0
  generalize fnd L.na (wdv t n p3) q.toNat 0 = b at *
  by_cases c6 : b = -1
  · rw [if_pos c6] at hQ
    rw [if_neg (fun y => y c6), ga K.k0]
    refine M179 K3 T3 (by decide) (fun h4 f4 F => ?_)
    rw [o1, List.cons_append, List.nil_append, B189_140, ga (by decide)]
    exact hQ.1 _ _ h4 rfl (F3.tok f4) F
  rw [if_neg c6] at hQ
  have hb : 0 ≤ b ∧ b < q := by omega
  have hib : inq L.A b := ⟨hb.1, by omega⟩
  have hcb := O.ch b hib
  have e9 : h 139 (3608 + 3 * b) = L.A.ch b := by
    have y := N.ms.ch b hib
    rw [← y]
    show _ = h 139 (3600 + (8 + 3 * b))
    congr 1; omega
  have y8 : ∀ i u, hset h3 139 i u 138 = h3 138 := fun i u => hset_a _ _ _ (by decide)
  rw [if_pos c6, ga K.k0, K3.pat, w32_id (x := 3 * q) (by omega) (by omega), w32_id (x := 3608 + 3 * q) (by omega) (by omega), w32_id (x := 3608 + 3 * q + 1) (by omega) (by omega), w32_id (x := 3608 + 3 * q + 1 + m) (by omega) (by omega), w32_id (x := 3 * b) (by omega) (by omega), w32_id (x := 3608 + 3 * b) (by omega) (by omega), ga ⟨K.kat, by decide, by omega, by rw [K.lat]; omega⟩, ga K.k0, y8, K3.pat, ga ⟨K.kat, by omega, by rw [K.lat]; omega⟩, ga K.k0, hset_i _ _ (show 3608 + 3 * b ≠ 3608 + 3 * q + 1 + m by omega), g3 139 (by decide), e9]
  have F3b : FN h (hset h3 139 (3608 + 3 * q + 1 + m) b) := F3.at_ (by omega)
  have T3b : MP (hset h3 139 (3608 + 3 * q + 1 + m) b) t n p3 := T3.at_ (by decide) (by decide)
  have K3b := F3b.mk K
  have g3b : ∀ a, a ≠ 138 → a ≠ 139 → hset h3 139 (3608 + 3 * q + 1 + m) b a = h a := fun a ha hb => by rw [hset_a _ _ _ hb, g3 a ha]
  have x3b : hset h3 139 (3608 + 3 * q + 1 + m) b 138 18 = or32 (h 138 18) bt := by rw [y8]; exact x3
  have o3b : ∀ j, j ≠ 3608 + 3 * q + 1 + m → hset h3 139 (3608 + 3 * q + 1 + m) b 139 j = h 139 j := fun j hj => by rw [hset_i _ _ hj, g3 139 (by decide)]
  have v3b : hset h3 139 (3608 + 3 * q + 1 + m) b 139 (3608 + 3 * q + 1 + m) = b := hset_e _ _ _ _
  generalize hset h3 139 (3608 + 3 * q + 1 + m) b = h3b at *
  refine M176 K3b T3b (fun h4 f4 _ T4 => ?_)
  rw [o0, List.nil_append]
  exact tail h4 _ (L.A.ch b) b (xI b) (F3b.tok f4) T4 hQ (by omega) (if_neg c6) (Or.inr hb) (by rw [f4.1 145 (by decide)]; exact g3b 145 (by decide) (by decide)) (by rw [f4.2 18 (by decide)]; exact x3b) (by rw [f4.1 139 (by decide)]; exact o3b) (by rw [f4.1 139 (by decide)]; exact v3b)
