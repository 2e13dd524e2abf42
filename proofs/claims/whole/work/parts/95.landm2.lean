/-! A LAND's parts, on the model's side: doors and questions -/
/-- how a part ends: a fault; a wrong end; or what it leaves -/
def MPo (g : KG) (t : Int → Int) (n : Nat) (h : KH) (z : LRz) (Q : Option KV → KG → KH → Prop) : Prop :=
  (∀ (k pl : Int) (h2 : KH), z = .inr (k, pl) → FN h h2 → MF h2 k pl → Q (some (xI 0)) g h2) ∧
  (∀ (p2 : Nat) (h2 : KH), ¬ sgnD t n p2 59 → z = .inr (flt t n p2 2, (p2 : Int)) → FN h h2 → MP h2 t n p2 → Q (some (xI 1)) g h2) ∧
  (∀ (L2 : PL) (p2 : Nat) (h2 : KH), z = sEnd t n L2 p2 → FN h h2 → NI h2 L2 → MP h2 t n p2 → Q (some (xI 1)) g h2)
theorem MS.small {f : Int → Int} {A : St} (n0 : A.ns = 0) (r0 : A.nr = 0) (s0 : A.rs 0 = 0) (f0 : f 0 = A.nq) (f1 : f 1 = A.nd) (f2 : f 2 = 0) (f3 : f 3 = 0) (f4 : f 4 = A.wk) (f5 : f 5 = A.ca) (f6 : f 6 = A.cm) (ch : ∀ q, inq A q → f (8 + 3 * q) = A.ch q) (gb : ∀ m q, bit1 m → inq A q → f (8 + 3 * q + 1 + m) = A.gb m q) (wt : ∀ m q r a, bit1 m → inq A q → 0 ≤ r → r < A.rows m q → 0 ≤ a → a < A.ch q → f (0 + 26 + 32 * q + 16 * m + 4 * r + a) = A.wt m q r a) (dx : ∀ i, 0 ≤ i → i < A.nd → f (218 + 2 * i) = A.dx i) (dy : ∀ i, 0 ≤ i → i < A.nd → f (218 + 2 * i + 1) = A.dy i) (rs : f 458 = A.rs 0) : MS f A := by
  have no : ∀ s, ¬ ins A s := by
    intro s z
    have z0 := z.1
    have z1 := z.2
    rw [n0] at z1
    omega
  refine ⟨f0, f1, by rw [f2, n0], by rw [f3, r0], f4, f5, f6, ch, gb, wt, dx, dy, fun s hs => absurd hs (no s), fun s hs => absurd hs (no s), fun s hs => absurd hs (no s), fun s hs => absurd hs (no s), fun s hs => absurd hs (no s), fun s hs => absurd hs (no s), fun s hs _ => absurd hs (no s), fun s q hs _ => absurd hs (no s), fun r h0 h1 => ?_, fun k k0 k1 => ?_, fun k k0 k1 => ?_⟩
  · have e : r = 0 := by rw [r0] at h1; omega
    rw [e]; exact rs
  · rw [r0, s0] at k1; omega
  · rw [r0, s0] at k1; omega
theorem FN.nm {h h1 : KH} {i v : Int} (F : FN h h1) : FN h (hset h1 145 i v) := ⟨fun a a0 a1 a2 => by rw [hset_a _ _ _ a2, F.1 a a0 a1 a2], fun j hj => by rw [hset_a _ _ _ (by decide), F.2.1 j hj], fun j hj => by rw [hset_a _ _ _ (by decide), F.2.2 j hj]⟩
theorem M190 {g : KG} {h : KH} (K : MK g h) {t : Int → Int} {n p : Nat} (T : MP h t n p) {L : PL} (N : NI h L) (P : L.Ok) {d : Nat} {Q : Option KV → KG → KH → Prop} (hQ : MPo g t n h (sDoor t n L p) Q) : Cl (d + 4) 190 [xR 138] g h Q := by
  have n0 := P.O.nd
  have ed : h 139 3601 = L.A.nd := N.ms.nd
  unfold sDoor at hQ
  rw [E190, ga K.k0, K.pat, ga ⟨K.kat, by decide, by rw [K.lat]; decide⟩, ga K.k0, ga ⟨K.kat, by decide, by rw [K.lat]; decide⟩, ed]
  by_cases z : L.A.nd = 16
  · rw [if_pos (by omega)] at hQ
    rw [if_neg (fun y => y z), ga K.k0]
    refine M179 K T (by decide) (fun h2 f2 F => ?_)
    rw [o1, List.cons_append, List.nil_append, B190_34, ga (by decide)]
    exact hQ.1 _ _ h2 rfl ((FN.rfl_ h).tok f2) F
  · rw [if_neg (by omega)] at hQ
    rw [if_pos z, ga K.k0, w32_id (x := 2 * L.A.nd) (by omega) (by omega), w32_id (x := 3818 + 2 * L.A.nd) (by omega) (by omega)]
    have bad : ∀ (h2 : KH), Q (some (xI 0)) g h2 → Rn (d + 3) 190 63 [xR 138, xI (3818 + 2 * L.A.nd)] [] g h2 Q := by
      intro h2 q
      rw [B190_63, ga (by decide)]
      exact q
    have nz : ¬ ((0 : Int) ≠ 0) := fun y => y rfl
    refine M176 K T (fun h1 f1 _ T1 => ?_)
    have K1 := f1.mk K
    have F1 := (FN.rfl_ h).tok f1
    generalize nxt t n p = p1 at *
    rw [o0, List.nil_append, B190_39, ga K.k0]
    refine M182 K1 T1 (by omega) (fun z2 h2 f2 F => ?_) (fun z2 z3 h2 f2 F => ?_) (fun z2 z3 h2 f2 T2 => ?_)
    · rw [sNum_b z2] at hQ
      rw [o1, List.cons_append, List.nil_append, B190_47, if_pos rfl]
      exact bad h2 (hQ.1 _ _ h2 rfl (F1.tok f2) F)
    · rw [sNum_n z2 z3] at hQ
      rw [o1, List.cons_append, List.nil_append, B190_47, if_pos rfl]
      exact bad h2 (hQ.1 _ _ h2 rfl (F1.tok f2) F)
    · rw [sNum_y z2 z3] at hQ
      have F2 := (F1.at_ (i := 3818 + 2 * L.A.nd) (v := nmv t n p1) (by omega)).tok f2
      have K2 := F2.mk K
      have e2 : h2 139 = (hset h1 139 (3818 + 2 * L.A.nd) (nmv t n p1)) 139 := f2.1 139 (by decide)
      have s2 : h2 138 18 = h1 138 18 := by rw [f2.2 18 (by decide), hset_a _ _ _ (by decide)]
      have b2 : h2 145 = h1 145 := by rw [f2.1 145 (by decide), hset_a _ _ _ (by decide)]
      generalize nxt t n p1 = p2 at *
      generalize nmv t n p1 = x at *
      rw [o1, List.cons_append, List.nil_append, B190_47, if_neg (by decide), ga K.k0, w32_id (x := 3818 + 2 * L.A.nd + 1) (by omega) (by omega)]
      refine M182 K2 T2 (by omega) (fun z4 h3 f3 F => ?_) (fun z4 z5 h3 f3 F => ?_) (fun z4 z5 h3 f3 T3 => ?_)
      · rw [sNum_b z4] at hQ
        rw [o1, List.cons_append, List.nil_append, B190_60, if_neg nz]
        exact bad h3 (hQ.1 _ _ h3 rfl (F2.tok f3) F)
      · rw [sNum_n z4 z5] at hQ
        rw [o1, List.cons_append, List.nil_append, B190_60, if_neg nz]
        exact bad h3 (hQ.1 _ _ h3 rfl (F2.tok f3) F)
      · rw [sNum_y z4 z5] at hQ
        have F3 := (F2.at_ (i := 3818 + 2 * L.A.nd + 1) (v := nmv t n p2) (by omega)).tok f3
        have K3 := F3.mk K
        have e3 : h3 139 = (hset h2 139 (3818 + 2 * L.A.nd + 1) (nmv t n p2)) 139 := f3.1 139 (by decide)
        have s3 : h3 138 18 = h2 138 18 := by rw [f3.2 18 (by decide), hset_a _ _ _ (by decide)]
        have b3 : h3 145 = h2 145 := by rw [f3.1 145 (by decide), hset_a _ _ _ (by decide)]
        generalize nxt t n p2 = p3 at *
        generalize nmv t n p2 = y at *
        have cx : h3 139 (3818 + 2 * L.A.nd) = x := by rw [e3, hset_i _ _ (by omega), e2, hset_e]
        have cy : h3 139 (3818 + 2 * L.A.nd + 1) = y := by rw [e3, hset_e]
        have co : ∀ j, j ≠ 3818 + 2 * L.A.nd → j ≠ 3818 + 2 * L.A.nd + 1 → h3 139 j = h 139 j := fun j a b => by rw [e3, hset_i _ _ b, e2, hset_i _ _ a, f1.1 139 (by decide)]
        rw [o1, List.cons_append, List.nil_append, B190_60, if_pos (by decide), ga K.k0, K3.pat, ga ⟨K.kat, by decide, by rw [K.lat]; decide⟩, ga ⟨K.kat, by decide, by decide, by rw [K.lat]; decide⟩, ga (by decide), co 3601 (by omega) (by omega), ed, w32_id (by omega) (by omega)]
        have dF : ∀ j, j ≠ 3601 → hset h3 139 3601 (L.A.nd + 1) 139 j = h3 139 j := fun j hj => hset_i _ _ hj
        have dG : hset h3 139 3601 (L.A.nd + 1) 139 3601 = L.A.nd + 1 := hset_e _ _ _ _
        have s4 : hset h3 139 3601 (L.A.nd + 1) 138 18 = h 138 18 := by rw [hset_a _ _ _ (by decide), s3, s2, f1.2 18 (by decide)]
        have b4 : hset h3 139 3601 (L.A.nd + 1) 145 = h 145 := by rw [hset_a _ _ _ (by decide), b3, b2, f1.1 145 (by decide)]
        refine hQ.2.2 (L.addd x y) p3 _ rfl (F3.at_ (by decide)) ⟨?_, by rw [b4]; exact N.na, by rw [s4]; exact N.tb⟩ (T3.at_ (by decide) (by decide))
        have n6 := P.O.nq
        have cz : ∀ j, j ≠ 1 → j ≠ 218 + 2 * L.A.nd → j ≠ 218 + 2 * L.A.nd + 1 → hset h3 139 3601 (L.A.nd + 1) 139 (3600 + j) = h 139 (3600 + j) := fun j a b c => by rw [dF _ (by omega), co _ (by omega) (by omega)]
        refine MS.small P.ns P.nr P.O.rs0 ?_ dG ?_ ?_ ?_ ?_ ?_ (fun q hq => ?_) (fun m q hm hq => ?_) (fun m q r a hm hq r0 r1 a0 a1 => ?_) (fun i i0 i1 => ?_) (fun i i0 i1 => ?_) ?_
        · show _ = L.A.nq
          rw [cz 0 (by decide) (by omega) (by omega)]; exact N.ms.nq
        · rw [cz 2 (by decide) (by omega) (by omega)]; exact N.ms.ns.trans P.ns
        · rw [cz 3 (by decide) (by omega) (by omega)]; exact N.ms.nr.trans P.nr
        · rw [cz 4 (by decide) (by omega) (by omega)]; exact N.ms.wk
        · rw [cz 5 (by decide) (by omega) (by omega)]; exact N.ms.ca
        · rw [cz 6 (by decide) (by omega) (by omega)]; exact N.ms.cm
        · have h1 := hq.1
          have h2 : q < L.A.nq := hq.2
          rw [cz _ (by omega) (by omega) (by omega)]; exact N.ms.ch q hq
        · have h1 := hq.1
          have h2 : q < L.A.nq := hq.2
          have := bit1_le hm
          rw [cz _ (by omega) (by omega) (by omega)]; exact N.ms.gb m q hm hq
        · have h1 := hq.1
          have h2 : q < L.A.nq := hq.2
          have := bit1_le hm
          have h3 : L.A.rows m q ≤ 4 := (P.O.rows hm hq).2
          have r1 : r < L.A.rows m q := r1
          have h4 := P.O.ch q hq
          have a1 : a < L.A.ch q := a1
          rw [cz _ (by omega) (by omega) (by omega)]; exact N.ms.wt m q r a hm hq r0 r1 a0 a1
        · have i1 : i < L.A.nd + 1 := i1
          show _ = if i = L.A.nd then x else L.A.dx i
          by_cases e : i = L.A.nd
          · rw [if_pos e, dF _ (by omega), ← cx, e]
            congr 1; omega
          · rw [if_neg e, cz _ (by omega) (by omega) (by omega)]; exact N.ms.dx i i0 (by omega)
        · have i1 : i < L.A.nd + 1 := i1
          show _ = if i = L.A.nd then y else L.A.dy i
          by_cases e : i = L.A.nd
          · rw [if_pos e, dF _ (by omega), ← cy, e]
            congr 1; omega
          · rw [if_neg e, cz _ (by omega) (by omega) (by omega)]; exact N.ms.dy i i0 (by omega)
        · rw [cz 458 (by decide) (by omega) (by omega)]
          have r := N.ms.rs 0 (by decide) (by rw [P.nr]; decide)
          exact r
theorem M188 {g : KG} {h : KH} (K : MK g h) {t : Int → Int} {n p : Nat} (T : MP h t n p) {L : PL} (N : NI h L) (P : L.Ok) {d : Nat} {Q : Option KV → KG → KH → Prop} (hQ : MPo g t n h (sAsk t n L p) Q) : Cl (d + 4) 188 [xR 138] g h Q := by
  have n0 := P.O.nq
  have nd := P.O.nd
  have ed : h 139 3600 = L.A.nq := N.ms.nq
  unfold sAsk at hQ
  rw [E188, ga K.k0, K.pat, ga ⟨K.kat, by decide, by rw [K.lat]; decide⟩, ed]
  by_cases z : L.A.nq = 6
  · rw [if_pos (by omega)] at hQ
    rw [if_neg (fun y => y z), ga K.k0]
    refine M179 K T (by decide) (fun h2 f2 F => ?_)
    rw [o1, List.cons_append, List.nil_append, B188_21, ga (by decide)]
    exact hQ.1 _ _ h2 rfl ((FN.rfl_ h).tok f2) F
  rw [if_neg (by omega)] at hQ
  rw [if_pos z, ga K.k0]
  refine M176 K T (fun h1 f1 _ T1 => ?_)
  have K1 := f1.mk K
  have F1 := (FN.rfl_ h).tok f1
  generalize nxt t n p = p1 at *
  rw [o0, List.nil_append, B188_26, ga K.k0]
  refine M184 K1 T1 ?_
  rw [o1, List.cons_append, List.nil_append, B188_30]
  by_cases c1 : isnmD (wdv t n p1)
  case neg =>
    rw [if_pos c1] at hQ
    rw [bzf c1, if_neg (fun y => y rfl), ga K.k0]
    refine M179 K1 T1 (by decide) (fun h2 f2 F => ?_)
    rw [o1, List.cons_append, List.nil_append, B188_38, ga (by decide)]
    exact hQ.1 _ _ h2 rfl (F1.tok f2) F
  rw [if_neg (fun y => y c1)] at hQ
  rw [bzt c1, if_pos (by decide), ga K.k0]
  refine M186 K1 T1 c1.1 (by omega) (f := L.na) (fun q q0 q1 => by rw [f1.1 145 (by decide)]; exact N.na q ⟨q0, q1⟩) ?_
  rw [o1, List.cons_append, List.nil_append, B188_44]
  by_cases c2 : fnd L.na (wdv t n p1) L.A.nq.toNat 0 = -1
  case neg =>
    rw [if_pos c2] at hQ
    rw [if_neg c2, ga K.k0]
    refine M179 K1 T1 (by decide) (fun h2 f2 F => ?_)
    rw [o1, List.cons_append, List.nil_append, B188_53, ga (by decide)]
    exact hQ.1 _ _ h2 rfl (F1.tok f2) F
  rw [if_neg (fun y => y c2)] at hQ
  rw [if_pos c2, ga K.k0, ga K.k0, K1.p19]
  refine M185 K1 T1 c1.1 ?_
  have T1' : MP (hset h1 145 L.A.nq (wdv t n p1)) t n p1 := T1.at_ (by decide) (by decide)
  have F1' : FN h (hset h1 145 L.A.nq (wdv t n p1)) := F1.nm
  have K1' := F1'.mk K
  have g1 : ∀ a, a ≠ 145 → hset h1 145 L.A.nq (wdv t n p1) a = h1 a := fun a ha => hset_a _ _ _ ha
  have v1 : ∀ q, hset h1 145 L.A.nq (wdv t n p1) 145 q = if q = L.A.nq then wdv t n p1 else h 145 q := by
    intro q
    by_cases e : q = L.A.nq
    · rw [if_pos e, e, hset_e]
    · rw [if_neg e, hset_i _ _ e, f1.1 145 (by decide)]
  rw [o1, List.cons_append, List.nil_append, B188_63, ga ⟨K.k145, n0.1, by rw [K.l145]; omega⟩, ga K.k0]
  generalize hset h1 145 L.A.nq (wdv t n p1) = h1' at *
  generalize wdv t n p1 = w at *
  refine M176 K1' T1' (fun h2 f2 _ T2 => ?_)
  have F2 := F1'.tok f2
  have K2 := F2.mk K
  generalize nxt t n p1 = p2 at *
  rw [o0, List.nil_append, B188_68, ga K.k0, w32_id (x := 3 * L.A.nq) (by omega) (by omega), w32_id (x := 3608 + 3 * L.A.nq) (by omega) (by omega)]
  have fin0 : ∀ h3 : KH, Q (some (xI 0)) g h3 → Rn (d + 3) 188 83 [xR 138, xI L.A.nq, xI (3608 + 3 * L.A.nq), xU, xU] [xI 0] g h3 Q := by
    intro h3 q
    rw [B188_83, if_neg (fun y => y rfl), ga (by decide)]
    exact q
  refine M182 K2 T2 (by omega) (fun z4 h3 f3 F => ?_) (fun z4 z5 h3 f3 F => ?_) (fun z4 z5 h3 f3 T3 => ?_)
  · rw [sNum_b z4] at hQ
    rw [o1, List.cons_append, List.nil_append]
    exact fin0 h3 (hQ.1 _ _ h3 rfl (F2.tok f3) F)
  · rw [sNum_n z4 z5] at hQ
    rw [o1, List.cons_append, List.nil_append]
    exact fin0 h3 (hQ.1 _ _ h3 rfl (F2.tok f3) F)
  rw [sNum_y z4 z5] at hQ
  have F3 := (F2.at_ (i := 3608 + 3 * L.A.nq) (v := nmv t n p2) (by omega)).tok f3
  have K3 := F3.mk K
  have e3 : h3 139 = (hset h2 139 (3608 + 3 * L.A.nq) (nmv t n p2)) 139 := f3.1 139 (by decide)
  have s3 : h3 138 18 = h 138 18 := by rw [f3.2 18 (by decide), hset_a _ _ _ (by decide), f2.2 18 (by decide), g1 138 (by decide), f1.2 18 (by decide)]
  have b3 : h3 145 = h1' 145 := by rw [f3.1 145 (by decide), hset_a _ _ _ (by decide), f2.1 145 (by decide)]
  have o3 : ∀ j, j ≠ 3608 + 3 * L.A.nq → h3 139 j = h 139 j := fun j hj => by rw [e3, hset_i _ _ hj, f2.1 139 (by decide), g1 139 (by decide), f1.1 139 (by decide)]
  have c3 : h3 139 (3608 + 3 * L.A.nq) = nmv t n p2 := by rw [e3, hset_e]
  generalize nxt t n p2 = p3 at *
  generalize nmv t n p2 = c at *
  clear e3
  rw [o1, List.cons_append, List.nil_append, B188_83, if_pos (by decide), ga K.k0, w32_id (x := 3608 + 3 * L.A.nq + 1) (by omega) (by omega), w32_id (x := 3608 + 3 * L.A.nq + 2) (by omega) (by omega), K3.pat]
  have y0 : ∀ i v, hset h3 139 i v 138 = h3 138 := fun i v => hset_a _ _ _ (by decide)
  rw [y0, K3.pat, ga ⟨K.kat, by decide, by omega, by rw [K.lat]; omega⟩, ga K.k0, ga ⟨K.kat, by decide, by omega, by rw [K.lat]; omega⟩]
  have F4 : FN h (hset (hset h3 139 (3608 + 3 * L.A.nq + 1) (-1)) 139 (3608 + 3 * L.A.nq + 2) (-1)) := (F3.at_ (by omega)).at_ (by omega)
  have T4 : MP (hset (hset h3 139 (3608 + 3 * L.A.nq + 1) (-1)) 139 (3608 + 3 * L.A.nq + 2) (-1)) t n p3 := (T3.at_ (by decide) (by decide)).at_ (by decide) (by decide)
  have a4 : ∀ a, a ≠ 139 → hset (hset h3 139 (3608 + 3 * L.A.nq + 1) (-1)) 139 (3608 + 3 * L.A.nq + 2) (-1) a = h3 a := fun a ha => by rw [hset_a _ _ _ ha, hset_a _ _ _ ha]
  have o4 : ∀ j, j ≠ 3608 + 3 * L.A.nq + 1 → j ≠ 3608 + 3 * L.A.nq + 2 → hset (hset h3 139 (3608 + 3 * L.A.nq + 1) (-1)) 139 (3608 + 3 * L.A.nq + 2) (-1) 139 j = h3 139 j := fun j a b => by rw [hset_i _ _ b, hset_i _ _ a]
  have u4 : hset (hset h3 139 (3608 + 3 * L.A.nq + 1) (-1)) 139 (3608 + 3 * L.A.nq + 2) (-1) 139 (3608 + 3 * L.A.nq + 1) = -1 := by rw [hset_i _ _ (by omega), hset_e]
  have w4 : hset (hset h3 139 (3608 + 3 * L.A.nq + 1) (-1)) 139 (3608 + 3 * L.A.nq + 2) (-1) 139 (3608 + 3 * L.A.nq + 2) = -1 := hset_e _ _ _ _
  generalize hset (hset h3 139 (3608 + 3 * L.A.nq + 1) (-1)) 139 (3608 + 3 * L.A.nq + 2) (-1) = h4 at *
  have K4 := F4.mk K
  have c4 : h4 139 (3608 + 3 * L.A.nq) = c := by rw [o4 _ (by omega) (by omega), c3]
  refine L188 K4 ⟨n0.1, by omega⟩ z5 c4 (fun h5 f5 k5 w5 => ?_)
  have F5 : FN h h5 := ⟨fun a a0 a1 a2 => by rw [f5 a a1, F4.1 a a0 a1 a2], fun j hj => by rw [f5 138 (by decide), F4.2.1 j hj], fun j hj => by rw [k5 j (by omega), F4.2.2 j hj]⟩
  have K5 := F5.mk K
  have x0 : h5 139 3600 = L.A.nq := by rw [k5 _ (by omega), o4 _ (by omega) (by omega), o3 _ (by omega), ed]
  rw [B188_108, if_pos (by decide), ga K.k0, K5.pat, ga ⟨K.kat, by decide, by rw [K.lat]; decide⟩, ga ⟨K.kat, by decide, by decide, by rw [K.lat]; decide⟩, ga (by decide), x0, w32_id (by omega) (by omega)]
  have T5 : MP h5 t n p3 := ⟨T4.mt.keep (by rw [f5 138 (by decide)]) (f5 144 (by decide)), by rw [f5 138 (by decide)]; exact T4.mu, by rw [f5 138 (by decide)]; exact T4.fk, by rw [f5 138 (by decide)]; exact T4.fp, by rw [f5 138 (by decide)]; exact T4.fd⟩
  refine hQ.2.2 (L.addq w c) p3 _ rfl (F5.at_ (by decide)) ?_ (T5.at_ (by decide) (by decide))
  have z6 : ∀ j, j ≠ 3600 → hset h5 139 3600 (L.A.nq + 1) 139 j = h5 139 j := fun j hj => hset_i _ _ hj
  have z7 : hset h5 139 3600 (L.A.nq + 1) 139 3600 = L.A.nq + 1 := hset_e _ _ _ _
  have cz : ∀ j, j ≠ 0 → (j < 8 + 3 * L.A.nq ∨ 8 + 3 * L.A.nq + 2 < j) → (j < 26 + 32 * L.A.nq ∨ 58 + 32 * L.A.nq ≤ j) → hset h5 139 3600 (L.A.nq + 1) 139 (3600 + j) = h 139 (3600 + j) := fun j a b e => by rw [z6 _ (by omega), k5 _ (by omega), o4 _ (by omega) (by omega), o3 _ (by omega)]
  refine ⟨?_, fun q hq => ?_, ?_⟩
  · refine MS.small P.ns P.nr P.O.rs0 z7 ?_ ?_ ?_ ?_ ?_ ?_ (fun q hq => ?_) (fun m q hm hq => ?_) (fun m q r a hm hq r0 r1 a0 a1 => ?_) (fun i i0 i1 => ?_) (fun i i0 i1 => ?_) ?_
    · show _ = L.A.nd
      rw [cz 1 (by decide) (by omega) (by omega)]; exact N.ms.nd
    · rw [cz 2 (by decide) (by omega) (by omega)]; exact N.ms.ns.trans P.ns
    · rw [cz 3 (by decide) (by omega) (by omega)]; exact N.ms.nr.trans P.nr
    · rw [cz 4 (by decide) (by omega) (by omega)]; exact N.ms.wk
    · rw [cz 5 (by decide) (by omega) (by omega)]; exact N.ms.ca
    · rw [cz 6 (by decide) (by omega) (by omega)]; exact N.ms.cm
    · have h1 := hq.1
      have h2 : q < L.A.nq + 1 := hq.2
      show _ = if q = L.A.nq then c else L.A.ch q
      by_cases e : q = L.A.nq
      · rw [if_pos e, e, z6 _ (by omega), k5 _ (by omega), ← c4]
        congr 1; omega
      · rw [if_neg e, cz _ (by omega) (by omega) (by omega)]; exact N.ms.ch q ⟨h1, by omega⟩
    · have h1 := hq.1
      have h2 : q < L.A.nq + 1 := hq.2
      have m1 := bit1_le hm
      show _ = if q = L.A.nq then -1 else L.A.gb m q
      by_cases e : q = L.A.nq
      · rw [if_pos e, e, z6 _ (by omega), k5 _ (by omega)]
        rcases hm with rfl | rfl
        · rw [← u4]
          congr 1; omega
        · rw [← w4]
          congr 1; omega
      · rw [if_neg e, cz _ (by omega) (by omega) (by omega)]; exact N.ms.gb m q hm ⟨h1, by omega⟩
    · have h1 := hq.1
      have h2 : q < L.A.nq + 1 := hq.2
      have m1 := bit1_le hm
      show _ = if q = L.A.nq then shq c a else L.A.wt m q r a
      by_cases e : q = L.A.nq
      · have er : (L.addq w c).A.rows m q = 1 := by
          unfold St.rows
          exact if_pos (if_pos e)
        have ec : (L.addq w c).A.ch q = c := if_pos e
        rw [er] at r1
        rw [ec] at a1
        rw [if_pos e, e, z6 _ (by omega), ← w5 m a hm a0 a1]
        congr 1; omega
      · have hi : inq L.A q := ⟨h1, by omega⟩
        have eg : (L.addq w c).A.gb m q = L.A.gb m q := if_neg e
        have er : (L.addq w c).A.rows m q = L.A.rows m q := by
          unfold St.rows
          rw [eg]
          rcases P.O.gb m q hm hi with y | y
          · rw [if_pos y, if_pos y]
          · rw [if_neg (by omega), if_neg (by omega)]
            exact if_neg (by omega)
        have ec : (L.addq w c).A.ch q = L.A.ch q := if_neg e
        rw [er] at r1
        rw [ec] at a1
        have h3 := (P.O.rows hm hi).2
        have h4 := P.O.ch q hi
        rw [if_neg e, cz _ (by omega) (by omega) (by omega)]; exact N.ms.wt m q r a hm hi r0 r1 a0 a1
    · have i1 : i < L.A.nd := i1
      rw [cz _ (by omega) (by omega) (by omega)]; exact N.ms.dx i i0 i1
    · have i1 : i < L.A.nd := i1
      rw [cz _ (by omega) (by omega) (by omega)]; exact N.ms.dy i i0 i1
    · rw [cz 458 (by decide) (by omega) (by omega)]
      have r := N.ms.rs 0 (by decide) (by rw [P.nr]; decide)
      exact r
  · show _ = if q = L.A.nq then w else L.na q
    rw [hset_a _ _ _ (by decide), f5 145 (by decide), a4 145 (by decide), b3, v1]
    by_cases e : q = L.A.nq
    · rw [if_pos e, if_pos e]
    · rw [if_neg e, if_neg e]
      exact N.na q ⟨hq.1, by have : q < L.A.nq + 1 := hq.2; omega⟩
  · rw [hset_a _ _ _ (by decide), f5 138 (by decide), a4 138 (by decide), s3]
    exact N.tb
