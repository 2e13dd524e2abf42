/-! A LAND's tables, on the model's side -/
theorem tdm {r a c : Int} (r0 : 0 ≤ r) (a0 : 0 ≤ a) (ac : a < c) (hc : 2 ≤ c ∧ c ≤ 4) : Int.tdiv (r * c + a) c = r ∧ Int.tmod (r * c + a) c = a := by
  have h3 : c = 2 ∨ c = 3 ∨ c = 4 := by omega
  rcases h3 with rfl | rfl | rfl <;> (rw [Int.tdiv_eq_ediv_of_nonneg (by omega), Int.tmod_eq_emod_of_nonneg (by omega)]; omega)
theorem L189 {g : KG} {hb : KH} (K : MK g hb) {t : Int → Int} {n : Nat} {m q c R bt : Int} (hm : bit1 m) (hq : 0 ≤ q ∧ q < 6) (hc : 2 ≤ c ∧ c ≤ 4) (hR : 1 ≤ R ∧ R ≤ 4) {Kc : (Int → Int → Int) → Nat → LRz} {zz : LRz} {d : Nat} {Q : Option KV → KG → KH → Prop} (q1 : ∀ (k pl : Int) (h2 : KH), zz = .inr (k, pl) → FN hb h2 → MF h2 k pl → Q (some (xI 0)) g h2) (q2 : ∀ (p2 : Nat) (h2 : KH), ¬ sgnD t n p2 59 → zz = .inr (flt t n p2 2, (p2 : Int)) → FN hb h2 → MP h2 t n p2 → Q (some (xI 1)) g h2) (q3 : ∀ (w : Int → Int → Int) (p2 : Nat) (h2 : KH), zz = Kc w p2 → FN hb h2 → MP h2 t n p2 → h2 145 = hb 145 → h2 138 18 = hb 138 18 → (∀ j, (j < 3626 + 32 * q + 16 * m ∨ 3642 + 32 * q + 16 * m ≤ j) → h2 139 j = hb 139 j) → (∀ r a, 0 ≤ r → r < R → 0 ≤ a → a < c → h2 139 (3626 + 32 * q + 16 * m + 4 * r + a) = w r a) → Q (some (xI 1)) g h2) : ∀ (k : Nat) (w : Int → Int → Int) (r a s : Int) (p : Nat) (h : KH), zz = sWs t n c Kc k w r a s p → 0 ≤ r → 0 ≤ a → a < c → r * c + a + k = R * c → 0 ≤ s → s ≤ 16 * a → (0 < r + a ∨ kd t n p = 2) → FN hb h → MP h t n p → h 145 = hb 145 → h 138 18 = hb 138 18 → (∀ j, (j < 3626 + 32 * q + 16 * m ∨ 3642 + 32 * q + 16 * m ≤ j) → h 139 j = hb 139 j) → (∀ r2 a2, 0 ≤ r2 → 0 ≤ a2 → a2 < c → (r2 < r ∨ (r2 = r ∧ a2 < a)) → h 139 (3626 + 32 * q + 16 * m + 4 * r2 + a2) = w r2 a2) → Rn (d + 3) 189 198 [xR 138, xI m, xI q, xI bt, xI c, xI R, xI (r * c + a), xI s] [] g h Q := by
  have m1 := bit1_le hm
  have h3 : c = 2 ∨ c = 3 ∨ c = 4 := by omega
  have hRc : 0 ≤ R * c ∧ R * c ≤ 16 := by rcases h3 with rfl | rfl | rfl <;> omega
  intro k
  induction k with
  | zero =>
    intro w r a s p h ez r0 a0 ac hk s0 s1 hp F T e5 e8 eo ew
    have K1 := F.mk K
    have er : r = R ∧ a = 0 := by rcases h3 with rfl | rfl | rfl <;> omega
    have en : r * c + a = R * c := by omega
    have x2 := mkd_2 t n p
    unfold sWs at ez
    rw [B189_198, ga K.k0, T.mu.tk, en, w32_id (by omega) (by omega)]
    by_cases z : kd t n p = 2
    · have v := T.mu.vl (Or.inl z)
      rw [if_pos z] at ez
      rw [if_neg (fun y => y (by rw [x2]; exact z)), ga K.k0, v]
      have nn := nmv_r z
      by_cases z2 : nmv t n p ≤ 16
      · rw [if_neg (fun y => y ⟨nn.1, z2⟩)] at ez
        rw [if_pos z2, if_neg (fun y => y rfl), ga K.k0]
        refine M179 K1 T (by decide) (fun h2 f2 X => ?_)
        rw [o1, List.cons_append, List.nil_append, B189_237, ga (by decide)]
        exact q1 _ _ h2 ez (F.tok f2) X
      · rw [if_pos (fun y => z2 y.2)] at ez
        rw [if_neg z2, ga K.k0]
        refine M179 K1 T (by decide) (fun h2 f2 X => ?_)
        rw [o1, List.cons_append, List.nil_append, B189_220, ga (by decide)]
        exact q1 _ _ h2 ez (F.tok f2) X
    · rw [if_neg z] at ez
      rw [if_pos (fun y => z (by rw [x2] at y; exact y)), if_pos rfl, B189_351, B189_356, ga (by decide)]
      exact q3 w p h ez F T e5 e8 eo (fun r2 a2 z0 z1 z2 z3 => ew r2 a2 z0 z2 z3 (by omega))
  | succ k ih =>
    intro w r a s p h ez r0 a0 ac hk s0 s1 hp F T e5 e8 eo ew
    have K1 := F.mk K
    have er : r < R := by rcases h3 with rfl | rfl | rfl <;> omega
    have en : r * c + a ≠ R * c := by omega
    have n16 : 0 ≤ r * c + a ∧ r * c + a < 16 := by rcases h3 with rfl | rfl | rfl <;> omega
    have x2 := mkd_2 t n p
    unfold sWs at ez
    rw [B189_198, ga K.k0, T.mu.tk, w32_id (x := R * c) (by omega) (by omega)]
    by_cases z : kd t n p = 2
    · have v := T.mu.vl (Or.inl z)
      rw [if_neg (fun y => y z)] at ez
      rw [if_neg (fun y => y (by rw [x2]; exact z)), ga K.k0, v]
      have nn := nmv_r z
      by_cases z2 : nmv t n p ≤ 16
      · rw [if_neg (fun y => y ⟨nn.1, z2⟩)] at ez
        have td := tdm r0 a0 ac hc
        rw [if_pos z2, if_pos en, ga K.k0, ga (by omega), td.1, w32_id (x := r) (by omega) (by omega), K1.pat]
        refine M187 (by decide) hq hm (by omega) ?_
        have y8 : ∀ i u, hset h 139 i u 138 = h 138 := fun i u => hset_a _ _ _ (by decide)
        rw [o1, List.cons_append, List.nil_append, B189_255, ga (by omega), ga K.k0, td.2, w32_id (x := 3600 + 26 + 32 * q + 16 * m + 4 * r + a) (by omega) (by omega), ga ⟨K.kat, by decide, by omega, by rw [K.lat]; omega⟩, ga K.k0, ga (by omega), y8, v, w32_id (x := r * c + a + 1) (by omega) (by omega), w32_id (x := s + nmv t n p) (by omega) (by omega)]
        have F1 : FN hb (hset h 139 (3600 + 26 + 32 * q + 16 * m + 4 * r + a) (nmv t n p)) := F.at_ (by omega)
        have T1 : MP (hset h 139 (3600 + 26 + 32 * q + 16 * m + 4 * r + a) (nmv t n p)) t n p := T.at_ (by decide) (by decide)
        have f5 : hset h 139 (3600 + 26 + 32 * q + 16 * m + 4 * r + a) (nmv t n p) 145 = hb 145 := by rw [hset_a _ _ _ (by decide)]; exact e5
        have f8 : hset h 139 (3600 + 26 + 32 * q + 16 * m + 4 * r + a) (nmv t n p) 138 18 = hb 138 18 := by rw [y8]; exact e8
        have fo : ∀ j, (j < 3626 + 32 * q + 16 * m ∨ 3642 + 32 * q + 16 * m ≤ j) → hset h 139 (3600 + 26 + 32 * q + 16 * m + 4 * r + a) (nmv t n p) 139 j = hb 139 j := fun j hj => by rw [hset_i _ _ (by omega)]; exact eo j hj
        have fw : ∀ r2 a2, 0 ≤ r2 → 0 ≤ a2 → a2 < c → (r2 < r ∨ (r2 = r ∧ a2 < a + 1)) → hset h 139 (3600 + 26 + 32 * q + 16 * m + 4 * r + a) (nmv t n p) 139 (3626 + 32 * q + 16 * m + 4 * r2 + a2) = (fun r2 a2 => if r2 = r ∧ a2 = a then nmv t n p else w r2 a2) r2 a2 := by
          intro r2 a2 z0 z1 z3 z4
          show _ = if r2 = r ∧ a2 = a then nmv t n p else w r2 a2
          by_cases e : r2 = r ∧ a2 = a
          · rw [if_pos e, e.1, e.2, show 3626 + 32 * q + 16 * m + 4 * r + a = 3600 + 26 + 32 * q + 16 * m + 4 * r + a by omega, hset_e]
          · rw [if_neg e, hset_i _ _ (by omega)]
            exact ew r2 a2 z0 z1 z3 (by omega)
        generalize hset h 139 (3600 + 26 + 32 * q + 16 * m + 4 * r + a) (nmv t n p) = h1 at *
        have K2 := F1.mk K
        generalize (fun r2 a2 => if r2 = r ∧ a2 = a then nmv t n p else w r2 a2) = w1 at *
        by_cases ea : a + 1 = c
        · have en2 : r * c + a + 1 = (r + 1) * c + 0 := by rw [Int.add_mul]; omega
          have tm := (tdm (r := r + 1) (a := 0) (c := c) (by omega) (by decide) (by omega) hc).2
          rw [en2]
          rw [if_pos ea] at ez
          rw [tm, if_neg (fun y => y rfl)]
          by_cases es : s + nmv t n p = 16
          · rw [if_neg (fun y => y es)] at ez
            rw [if_pos es, B189_300, ga (by omega), tm, if_neg (fun y => y rfl), B189_314, ga K.k0]
            refine M176 K2 T1 (fun h2 f2 _ T2 => ?_)
            rw [o0, List.nil_append, B189_320]
            refine ih w1 (r + 1) 0 0 _ h2 ez (by omega) (by decide) (by omega) (by omega) (by decide) (by decide) (Or.inl (by omega)) (F1.tok f2) T2 (by rw [f2.1 145 (by decide)]; exact f5) (by rw [f2.2 18 (by decide)]; exact f8) (by rw [f2.1 139 (by decide)]; exact fo) (by
              rw [f2.1 139 (by decide)]
              intro r2 a2 z0 z1 z3 z4
              exact fw r2 a2 z0 z1 z3 (by omega))
          · rw [if_pos es] at ez
            rw [if_neg es, ga K.k0]
            refine M179 K2 T1 (by decide) (fun h2 f2 X => ?_)
            rw [o1, List.cons_append, List.nil_append, B189_299, ga (by decide)]
            exact q1 _ _ h2 ez (F1.tok f2) X
        · have tm := (tdm (r := r) (a := a + 1) (c := c) r0 (by omega) (by omega) hc).2
          have en2 : r * c + a + 1 = r * c + (a + 1) := by omega
          rw [en2]
          rw [if_neg ea] at ez
          rw [tm, if_pos (by omega), B189_300, ga (by omega), tm, if_pos (by omega), B189_314, ga K.k0]
          refine M176 K2 T1 (fun h2 f2 _ T2 => ?_)
          rw [o0, List.nil_append, B189_320]
          exact ih w1 r (a + 1) (s + nmv t n p) _ h2 ez r0 (by omega) (by omega) (by omega) (by omega) (by omega) (Or.inl (by omega)) (F1.tok f2) T2 (by rw [f2.1 145 (by decide)]; exact f5) (by rw [f2.2 18 (by decide)]; exact f8) (by rw [f2.1 139 (by decide)]; exact fo) (by rw [f2.1 139 (by decide)]; exact fw)
      · rw [if_pos (fun y => z2 y.2)] at ez
        rw [if_neg z2, ga K.k0]
        refine M179 K1 T (by decide) (fun h2 f2 X => ?_)
        rw [o1, List.cons_append, List.nil_append, B189_220, ga (by decide)]
        exact q1 _ _ h2 ez (F.tok f2) X
    · rw [if_pos z] at ez
      have ra : 0 < r + a := by omega
      rw [if_pos (fun y => z (by rw [x2] at y; exact y)), if_neg en, ga K.k0]
      refine M177 K1 T ?_
      rw [o1, List.cons_append, List.nil_append, B189_339]
      by_cases y : sgnD t n p 59
      · rw [if_pos ⟨y, ra⟩] at ez
        rw [bzt y, if_neg (by decide), ga K.k0]
        refine M179 K1 T (by decide) (fun h2 f2 X => ?_)
        rw [o1, List.cons_append, List.nil_append, B189_348, if_pos rfl, B189_356, ga (by decide)]
        exact q1 _ _ h2 ez (F.tok f2) X
      · rw [if_neg (fun x => y x.1)] at ez
        rw [bzf y, if_pos rfl, B189_351, B189_356, ga (by decide)]
        exact q2 p h y ez F T
theorem FN.bit {h h1 : KH} {v : Int} (F : FN h h1) : FN h (hset h1 138 18 v) := ⟨fun a a0 a1 a2 => by rw [hset_a _ _ _ a0, F.1 a a0 a1 a2], fun j hj => by rw [hset_i _ _ (by omega), F.2.1 j hj], fun j hj => by rw [hset_a _ _ _ (by decide), F.2.2 j hj]⟩
theorem MP.bit {h : KH} {t : Int → Int} {n p : Nat} {v : Int} (T : MP h t n p) : MP (hset h 138 18 v) t n p := by
  have i : ∀ j, j ≠ 18 → hset h 138 18 v 138 j = h 138 j := fun j hj => hset_i _ _ hj
  exact ⟨T.mt.keep (i 10 (by decide)) (hset_a _ _ _ (by decide)), ⟨T.mu.pn, by rw [i 12 (by decide)]; exact T.mu.fr, by rw [i 13 (by decide)]; exact T.mu.en, by rw [i 11 (by decide)]; exact T.mu.tk, by rw [i 14 (by decide)]; exact T.mu.vl⟩, by rw [i 17 (by decide)]; exact T.fk, by rw [i 16 (by decide)]; exact T.fp, by rw [i 9 (by decide)]; exact T.fd⟩
theorem TB.tab {x : Int} {L : PL} (B : TB x L) {m q : Int} (hm : bit1 m) (hq : 0 ≤ q ∧ q < 6) (b : Int) (w : Int → Int → Int) : TB (or32 x (shl32 1 (2 * q + m))) (L.tab m q b w) := by
  have m1 := bit1_le hm
  obtain ⟨v, e, hv, h1, h2, h3⟩ := B
  obtain ⟨k, hk⟩ : ∃ k : Nat, 2 * q + m = (k : Int) := ⟨(2 * q + m).toNat, by omega⟩
  have ob := or_b (v := v) (k := k) hv (by omega)
  rw [e, hk, ob.1]
  refine ⟨_, rfl, ob.2, fun m2 q2 b2 r0 r1 => ?_, ?_, ?_⟩
  · have m2_ := bit1_le b2
    show _ ↔ (if m2 = m ∧ q2 = q then 1 else L.tq m2 q2) = 1
    rw [tb_or]
    by_cases y : m2 = m ∧ q2 = q
    · rw [if_pos y, decide_eq_true (by omega), Bool.or_true]
      exact ⟨fun _ => rfl, fun _ => rfl⟩
    · rw [if_neg y, decide_eq_false (by omega), Bool.or_false]
      exact h1 m2 q2 b2 r0 r1
  · rw [tb_or, decide_eq_false (by omega), Bool.or_false]; exact h2
  · rw [tb_or, decide_eq_false (by omega), Bool.or_false]; exact h3
theorem TB.bit {x : Int} {L : PL} (B : TB x L) {m q : Int} (hm : bit1 m) (hq : 0 ≤ q ∧ q < 6) (hb : L.tq m q = 0 ∨ L.tq m q = 1) : (and32 x (shl32 1 (2 * q + m)) = 0) = (L.tq m q = 0) := by
  have m1 := bit1_le hm
  obtain ⟨v, e, hv, h1, h2, h3⟩ := B
  obtain ⟨k, hk⟩ : ∃ k : Nat, 2 * q + m = (k : Int) := ⟨(2 * q + m).toNat, by omega⟩
  have i := h1 m q hm hq.1 hq.2
  rw [e, hk, and_b (by omega) (by omega)]
  rw [hk, Int.toNat_natCast] at i
  apply propext
  cases y : v.testBit k
  · rw [y] at i
    constructor
    · intro _
      rcases hb with z | z
      · exact z
      · exact absurd (i.2 z) (by decide)
    · intro _; rfl
  · rw [y] at i
    constructor
    · intro z; exact absurd z (by decide)
    · intro z
      have := i.1 rfl
      omega
theorem NI.tab {h h4 h2 : KH} {L : PL} (N : NI h L) (P : L.Ok) {m q b : Int} (hm : bit1 m) (hq : inq L.A q) (hb : b = -1 ∨ (0 ≤ b ∧ b < q)) {w : Int → Int → Int} (b4 : h4 145 = h 145) (x4 : TB (h4 138 18) (L.tab m q b w)) (o4 : ∀ j, j ≠ 3608 + 3 * q + 1 + m → h4 139 j = h 139 j) (v4 : h4 139 (3608 + 3 * q + 1 + m) = b) (b2 : h2 145 = h4 145) (x2 : h2 138 18 = h4 138 18) (o2 : ∀ j, (j < 3626 + 32 * q + 16 * m ∨ 3642 + 32 * q + 16 * m ≤ j) → h2 139 j = h4 139 j) (w2 : ∀ r a, 0 ≤ r → r < (if b = -1 then 1 else L.A.ch b) → 0 ≤ a → a < L.A.ch q → h2 139 (3626 + 32 * q + 16 * m + 4 * r + a) = w r a) : NI h2 (L.tab m q b w) := by
  have O := P.O
  have n6 := O.nq
  have q0 := hq.1
  have q1 := hq.2
  have m1 := bit1_le hm
  have n0 := O.nd
  refine ⟨?_, by rw [b2, b4]; exact N.na, by rw [x2]; exact x4⟩
  have cz : ∀ j, j ≠ 8 + 3 * q + 1 + m → (j < 26 + 32 * q + 16 * m ∨ 42 + 32 * q + 16 * m ≤ j) → h2 139 (3600 + j) = h 139 (3600 + j) := fun j a b => by rw [o2 _ (by omega), o4 _ (by omega)]
  have ech : ∀ q2, (L.tab m q b w).A.ch q2 = L.A.ch q2 := fun _ => rfl
  refine MS.small P.ns P.nr P.O.rs0 ?_ ?_ ?_ ?_ ?_ ?_ ?_ (fun q2 hq2 => ?_) (fun m2 q2 hm2 hq2 => ?_) (fun m2 q2 r a hm2 hq2 r0 r1 a0 a1 => ?_) (fun i i0 i1 => ?_) (fun i i0 i1 => ?_) ?_
  · rw [cz 0 (by omega) (by omega)]; exact N.ms.nq
  · rw [cz 1 (by omega) (by omega)]; exact N.ms.nd
  · rw [cz 2 (by omega) (by omega)]; exact N.ms.ns.trans P.ns
  · rw [cz 3 (by omega) (by omega)]; exact N.ms.nr.trans P.nr
  · rw [cz 4 (by omega) (by omega)]; exact N.ms.wk
  · rw [cz 5 (by omega) (by omega)]; exact N.ms.ca
  · rw [cz 6 (by omega) (by omega)]; exact N.ms.cm
  · have i0 := hq2.1
    have i1 : q2 < L.A.nq := hq2.2
    rw [cz _ (by omega) (by omega)]; exact N.ms.ch q2 hq2
  · have i0 := hq2.1
    have i1 : q2 < L.A.nq := hq2.2
    have m2_ := bit1_le hm2
    show _ = if m2 = m ∧ q2 = q then b else L.A.gb m2 q2
    by_cases e : m2 = m ∧ q2 = q
    · rw [if_pos e, e.1, e.2, o2 _ (by omega), ← v4]
      congr 1; omega
    · rw [if_neg e, cz _ (by omega) (by omega)]; exact N.ms.gb m2 q2 hm2 hq2
  · have i0 := hq2.1
    have i1 : q2 < L.A.nq := hq2.2
    have m2_ := bit1_le hm2
    rw [ech] at a1
    show _ = if m2 = m ∧ q2 = q then w r a else L.A.wt m2 q2 r a
    by_cases e : m2 = m ∧ q2 = q
    · have er : (L.tab m q b w).A.rows m2 q2 = if b = -1 then 1 else L.A.ch b := by
        unfold St.rows
        rw [show (L.tab m q b w).A.gb m2 q2 = b from if_pos e, ech]
      rw [er] at r1
      rw [e.2] at a1
      rw [if_pos e, e.1, e.2, ← w2 r a r0 r1 a0 a1]
      congr 1; omega
    · have er : (L.tab m q b w).A.rows m2 q2 = L.A.rows m2 q2 := by
        unfold St.rows
        rw [show (L.tab m q b w).A.gb m2 q2 = L.A.gb m2 q2 from if_neg e, ech]
      rw [er] at r1
      have h3 := (P.O.rows hm2 hq2).2
      have h4 := P.O.ch q2 hq2
      rw [if_neg e, cz _ (by omega) (by omega)]; exact N.ms.wt m2 q2 r a hm2 hq2 r0 r1 a0 a1
  · have i1 : i < L.A.nd := i1
    rw [cz _ (by omega) (by omega)]; exact N.ms.dx i i0 i1
  · have i1 : i < L.A.nd := i1
    rw [cz _ (by omega) (by omega)]; exact N.ms.dy i i0 i1
  · rw [cz 458 (by omega) (by omega)]
    exact N.ms.rs 0 (by decide) (by rw [P.nr]; decide)
