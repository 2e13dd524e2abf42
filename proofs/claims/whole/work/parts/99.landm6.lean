/-! the call land, on the model's side -/
def FPz (z : LRz) : Prop := ∀ k pl, z = .inr (k, pl) → 0 < k
theorem FPz.f {t : Int → Int} {n p : Nat} {c pl : Int} (h : 0 < c) : FPz (.inr (flt t n p c, pl)) := by
  intro k pl2 e
  have e2 := congrArg Prod.fst (Sum.inr.inj e)
  have e3 : flt t n p c = k := e2
  rw [← e3]
  unfold flt
  split <;> omega
theorem FPz.l {x : PL × Nat} : FPz (.inl x) := fun _ _ e => by cases e
theorem FPz.i {c : Prop} [Decidable c] {a b : LRz} (x : FPz a) (y : FPz b) : FPz (if c then a else b) := by
  split
  · exact x
  · exact y
theorem FPz.num {t : Int → Int} {n p : Nat} {lo hi : Int} {K : Int → Nat → LRz} (h : ∀ v p2, FPz (K v p2)) : FPz (sNum t n p lo hi K) := by
  unfold sNum
  exact FPz.i (FPz.f (by decide)) (FPz.i (FPz.f (by decide)) (h _ _))
theorem FPz.end_ {t : Int → Int} {n p : Nat} {L : PL} : FPz (sEnd t n L p) := by
  unfold sEnd
  exact FPz.i FPz.l (FPz.f (by decide))
theorem FPz.ws {t : Int → Int} {n : Nat} {c : Int} {K : (Int → Int → Int) → Nat → LRz} (h : ∀ w p, FPz (K w p)) : ∀ (k : Nat) (w : Int → Int → Int) (r a s : Int) (p : Nat), FPz (sWs t n c K k w r a s p) := by
  intro k
  induction k with
  | zero =>
    intro w r a s p
    unfold sWs
    exact FPz.i (FPz.i (FPz.f (by decide)) (FPz.f (by decide))) (h _ _)
  | succ k ih =>
    intro w r a s p
    unfold sWs
    exact FPz.i (FPz.i (FPz.f (by decide)) (FPz.f (by decide))) (FPz.i (FPz.f (by decide)) (FPz.i (FPz.i (FPz.f (by decide)) (ih _ _ _ _ _)) (ih _ _ _ _ _)))
theorem FPz.tab {t : Int → Int} {n p : Nat} {m : Int} {L : PL} : FPz (sTab t n m L p) := by
  unfold sTab
  exact FPz.i (FPz.f (by decide)) (FPz.i (FPz.f (by decide)) (FPz.i (FPz.f (by decide)) (FPz.i (FPz.i (FPz.f (by decide)) (FPz.i (FPz.f (by decide)) (FPz.ws (fun _ _ => FPz.end_) _ _ _ _ _ _))) (FPz.ws (fun _ _ => FPz.end_) _ _ _ _ _ _))))
theorem FPz.part {t : Int → Int} {n p : Nat} {L : PL} : FPz (sPart t n L p) := by
  unfold sPart sAsk sDoor sWalk sCards
  exact FPz.i (FPz.i (FPz.f (by decide)) (FPz.i (FPz.f (by decide)) (FPz.i (FPz.f (by decide)) (FPz.num (fun _ _ => FPz.end_))))) (FPz.i FPz.tab (FPz.i FPz.tab (FPz.i (FPz.i (FPz.f (by decide)) (FPz.num (fun _ _ => FPz.num (fun _ _ => FPz.end_)))) (FPz.i (FPz.i (FPz.f (by decide)) (FPz.num (fun _ _ => FPz.end_))) (FPz.i (FPz.i (FPz.f (by decide)) (FPz.num (fun _ _ => FPz.num (fun _ _ => FPz.end_)))) (FPz.f (by decide)))))))
theorem sLand_e {t : Int → Int} {n k p : Nat} {L : PL} (h : kd t n p = 0) : sLand t n (k + 1) L p = .inl L := by
  unfold sLand; rw [if_pos h]
theorem sLand_r {t : Int → Int} {n k p : Nat} {L : PL} {f : Int × Int} (h : kd t n p ≠ 0) (e : sPart t n L p = .inr f) : sLand t n (k + 1) L p = .inr f := by
  unfold sLand; rw [if_neg h, e]
theorem sLand_l {t : Int → Int} {n k p : Nat} {L : PL} {L2 : PL} {p2 : Nat} (h : kd t n p ≠ 0) (e : sPart t n L p = .inl (L2, p2)) : sLand t n (k + 1) L p = sLand t n k L2 p2 := by
  rw [sLand, if_neg h, e]
theorem L192 {g : KG} {h0 : KH} (K : MK g h0) {t : Int → Int} {n : Nat} {d : Nat} {a1 : Int} {Q : Option KV → KG → KH → Prop} : ∀ (k : Nat) (L : PL) (p : Nat) (h1 : KH), n < p + k → p ≤ n → FN h0 h1 → NI h1 L → L.Ok → MP h1 t n p → (∀ (q pl : Int) (h2 : KH), sLand t n k L p = .inr (q, pl) → 0 < q → FN h0 h2 → MF h2 q pl → Rn (d + 5) 192 48 [xR 138, xI a1, xI 0, xU] [] g h2 Q) → (∀ (L2 : PL) (p2 : Nat) (h2 : KH), sLand t n k L p = .inl L2 → L2.Ok → FN h0 h2 → NI h2 L2 → MP h2 t n p2 → Rn (d + 5) 192 48 [xR 138, xI a1, xI 0, xU] [] g h2 Q) → Rn (d + 5) 192 48 [xR 138, xI a1, xI (bz (kd t n p ≠ 0)), xU] [] g h1 Q := by
  intro k
  induction k with
  | zero =>
    intro L p h1 hk hp
    omega
  | succ k ih =>
    intro L p h1 hk hp F N P T hf hl
    by_cases z : kd t n p = 0
    · rw [bzf (fun y => y z)]
      exact hl L p h1 (sLand_e z) P F N T
    · have K1 := F.mk K
      have stop : ∀ (q pl : Int) (h2 : KH), sPart t n L p = .inr (q, pl) → FN h0 h2 → MF h2 q pl → Rn (d + 5) 192 77 [xR 138, xI a1, xI 1, xU] [] g h2 Q := by
        intro q pl h2 e F2 X
        rw [B192_77, B192_78]
        exact hf q pl h2 (sLand_r z e) (FPz.part q pl e) F2 X
      rw [bzt z, B192_48, if_neg (by decide), ga K.k0]
      refine M191 K1 T N P ⟨fun q pl h2 e F2 X => ?_, fun p2 h2 e1 e2 F2 X => ?_, fun L2 p2 h2 e F2 N2 X => ?_⟩
      · dsimp only
        rw [o1, List.cons_append, List.nil_append, B192_56, if_pos rfl]
        exact stop q pl h2 e (F.tr F2) X
      · have K2 := F2.mk K1
        dsimp only
        rw [o1, List.cons_append, List.nil_append, B192_56, if_neg (by decide), ga K.k0]
        refine M181 K2 X (fun y h3 f3 X3 => ?_) (fun y => absurd y e1)
        rw [o1, List.cons_append, List.nil_append, B192_63, if_pos rfl]
        exact stop _ _ h3 e2 ((F.tr F2).tok f3) X3
      · have K2 := F2.mk K1
        dsimp only
        rw [o1, List.cons_append, List.nil_append, B192_56, if_neg (by decide), ga K.k0]
        refine M181 K2 X (fun y h3 f3 X3 => ?_) (fun y h3 f3 X3 => ?_)
        · rw [sEnd_n y] at e
          rw [o1, List.cons_append, List.nil_append, B192_63, if_pos rfl]
          exact stop _ _ h3 e ((F.tr F2).tok f3) X3
        · rw [sEnd_y y] at e
          have i := sPart_i P hp z e
          have xx := mkd_0 t n (nxt t n p2)
          have N3 := N2.tok f3
          have F3 := (F.tr F2).tok f3
          have es := sLand_l (k := k) z e
          rw [o1, List.cons_append, List.nil_append, B192_63, if_neg (by decide), ga K.k0, X3.mu.tk]
          have nx := ih L2 (nxt t n p2) h3 (by omega) i.2.2 F3 N3 i.1 X3 (fun q pl h4 e4 => hf q pl h4 (by rw [es]; exact e4)) (fun L4 p4 h4 e4 => hl L4 p4 h4 (by rw [es]; exact e4))
          by_cases z2 : kd t n (nxt t n p2) = 0
          · rw [bzf (fun y => y z2)] at nx
            rw [if_pos (by rw [xx]; exact z2), B192_77, B192_78]
            exact nx
          · rw [bzt z2] at nx
            rw [if_neg (fun y => z2 (by rw [xx] at y; exact y)), B192_78]
            exact nx
theorem S156 {g : KG} {h : KH} (k0 : gK g 138 = 12) (pa : h 138 0 = 139) (ka : gK g 139 = 20) (la : gL g 139 = 4500) {b : Int} (hb : 0 ≤ b ∧ b ≤ 3600) {d : Nat} {Q : Option KV → KG → KH → Prop} (hQ : ∀ h2 : KH, (∀ a, a ≠ 139 → h2 a = h a) → (∀ j, (j < b ∨ b + 900 ≤ j) → h2 139 j = h 139 j) → (∀ j, 0 ≤ j → j < 900 → h2 139 (b + j) = if j = 4 then 10 else if j = 5 then 14 else if j = 6 then 2 else 0) → Q none g h2) : Cl (d + 1) 156 [xR 138, xI b] g h Q := by
  have lp : ∀ m k : Nat, k + m = 900 → ∀ h1 : KH, (∀ a, a ≠ 139 → h1 a = h a) → (∀ j, (j < b ∨ b + 900 ≤ j) → h1 139 j = h 139 j) → (∀ j, 0 ≤ j → j < (k : Int) → h1 139 (b + j) = 0) → Rn d 156 2 [xR 138, xI b, xI (k : Int)] [] g h1 Q := by
    intro m
    induction m with
    | zero =>
      intro k hk h1 f1 k1 z1
      have p1 : h1 138 0 = 139 := by rw [f1 138 (by decide)]; exact pa
      have y : ∀ h5 : KH, ∀ i v, hset h5 139 i v 138 = h5 138 := fun h5 i v => hset_a _ _ _ (by decide)
      rw [B156_2, if_pos (by omega), ga k0]
      simp only [y, p1]
      simp (disch := omega) only [w32_id, ka, la, true_and]
      rw [ga (by omega), ga k0, ga (by omega), ga k0, ga (by omega), B156_55]
      refine hQ _ (fun a ha => by rw [hset_a _ _ _ ha, hset_a _ _ _ ha, hset_a _ _ _ ha, f1 a ha]) (fun j hj => by rw [hset_i _ _ (by omega), hset_i _ _ (by omega), hset_i _ _ (by omega), k1 j hj]) (fun j j0 j1 => ?_)
      by_cases a6 : j = 6
      · rw [a6, if_neg (by decide), if_neg (by decide), if_pos rfl, show b + 6 = b + 5 + 1 by omega, hset_e]
      · rw [hset_i _ _ (by omega)]
        by_cases a5 : j = 5
        · rw [a5, if_neg (by decide), if_pos rfl, hset_e]
        · rw [hset_i _ _ (by omega)]
          by_cases a4 : j = 4
          · rw [a4, if_pos rfl, hset_e]
          · rw [hset_i _ _ (by omega), if_neg a4, if_neg a5, if_neg a6]
            exact z1 j j0 (by omega)
    | succ m ih =>
      intro k hk h1 f1 k1 z1
      have p1 : h1 138 0 = 139 := by rw [f1 138 (by decide)]; exact pa
      have e1 : ((k : Int) + 1) = ((k + 1 : Nat) : Int) := by omega
      rw [B156_2, if_neg (by omega), ga k0, p1, w32_id (x := b + (k : Int)) (by omega) (by omega), w32_id (x := (k : Int) + 1) (by omega) (by omega), ga ⟨ka, by decide, by omega, by rw [la]; omega⟩, e1]
      refine ih (k + 1) (by omega) _ (fun a ha => by rw [hset_a _ _ _ ha, f1 a ha]) (fun j hj => by rw [hset_i _ _ (by omega), k1 j hj]) (fun j j0 j1 => ?_)
      by_cases e : j = k
      · rw [e, hset_e]
      · rw [hset_i _ _ (by omega)]; exact z1 j j0 (by omega)
  rw [E156]
  exact lp 900 0 (by omega) h (fun _ _ => rfl) (fun _ _ => rfl) (fun j j0 j1 => by omega)
theorem MP.keep {h h2 : KH} {t : Int → Int} {n p : Nat} (T : MP h t n p) (e8 : h2 138 = h 138) (e4 : h2 144 = h 144) : MP h2 t n p :=
  ⟨T.mt.keep (by rw [e8]) e4, by rw [e8]; exact T.mu, by rw [e8]; exact T.fk, by rw [e8]; exact T.fp, by rw [e8]; exact T.fd⟩
theorem MR.rd {g : KG} {h h2 : KH} {W : Wd} (C : MR g h W) (G : W.Rg) {A : St} {s k p : Int} (e : ∀ a, 140 ≤ a → a < 155 → a ≠ 144 → a ≠ 145 → a ≠ 146 → h2 a = h a) (e0 : ∀ j, j ≠ 1 → (j < 9 ∨ 25 < j ∨ j = 19 ∨ j = 20) → h2 138 j = h 138 j) (v1 : h2 138 1 = s) (v9 : h2 138 9 = 0) (v15 : h2 138 15 = k) (v16 : h2 138 16 = p) (cu : MS (h2 139) A) (mk : ∀ j, 900 ≤ j → j < 3600 → h2 139 j = h 139 j) : MR g h2 (W.rd A s k p) := by
  obtain ⟨K, X, D⟩ := C
  have nm := G.2.2.1
  refine ⟨K.keep (fun j hj => e0 j (by omega) (by omega)), ⟨v1, by rw [e0 2 (by decide) (by decide)]; exact X.top, by rw [e0 3 (by decide) (by decide)]; exact X.bot, v9, v15, v16, by rw [e0 35 (by decide) (by decide)]; exact X.hm, by rw [e0 38 (by decide) (by decide)]; exact X.fs, by rw [e0 40 (by decide) (by decide)]; exact X.nmk⟩, ⟨by rw [e 141 (by decide) (by decide) (by decide) (by decide) (by decide)]; exact D.tm, by rw [e 140 (by decide) (by decide) (by decide) (by decide) (by decide)]; exact D.ts, by rw [e 142 (by decide) (by decide) (by decide) (by decide) (by decide)]; exact D.tv, fun k k0 k1 => absurd k1 (by show ¬ k < 0; omega), by rw [e 152 (by decide) (by decide) (by decide) (by decide) (by decide)]; exact D.hd, cu, fun i i0 i1 => ?_⟩⟩
  have i1 : i < W.nmk := i1
  exact (D.mk i i0 i1).keepb (G.2.2.2 i i0 i1) (fun j j0 j1 => mk _ (by omega) (by omega))
theorem NI.empty {h : KH} (z : ∀ j, 0 ≤ j → j < 900 → h 139 (3600 + j) = if j = 4 then 10 else if j = 5 then 14 else if j = 6 then 2 else 0) (x : h 138 18 = 0) : NI h PL.empty := by
  have no : ∀ q, ¬ inq PL.empty.A q := by
    intro q y
    have y0 := y.1
    have y1 : q < 0 := y.2
    omega
  refine ⟨MS.small rfl rfl rfl ?_ ?_ ?_ ?_ ?_ ?_ ?_ (fun q hq => absurd hq (no q)) (fun m q _ hq => absurd hq (no q)) (fun m q r a _ hq => absurd hq (no q)) (fun i i0 i1 => absurd i1 (by show ¬ i < 0; omega)) (fun i i0 i1 => absurd i1 (by show ¬ i < 0; omega)) ?_, fun q hq => absurd hq (no q), 0, by rw [x]; rfl, by decide, fun m q _ _ _ => ?_, ?_, ?_⟩
  · rw [z 0 (by decide) (by decide)]; rfl
  · rw [z 1 (by decide) (by decide)]; rfl
  · rw [z 2 (by decide) (by decide)]; rfl
  · rw [z 3 (by decide) (by decide)]; rfl
  · rw [z 4 (by decide) (by decide)]; rfl
  · rw [z 5 (by decide) (by decide)]; rfl
  · rw [z 6 (by decide) (by decide)]; rfl
  · rw [z 458 (by decide) (by decide)]; rfl
  · rw [Nat.zero_testBit]
    exact ⟨fun y => absurd y (by decide), fun y => absurd y (by show ¬ (0 : Int) = 1; decide)⟩
  · rw [Nat.zero_testBit]
    exact ⟨fun y => absurd y (by decide), fun y => absurd y (by show ¬ (0 : Int) = 1; decide)⟩
  · rw [Nat.zero_testBit]
    exact ⟨fun y => absurd y (by decide), fun y => absurd y (by show ¬ (0 : Int) = 1; decide)⟩
def Wd.tb (W : Wd) : Prop := ∀ k, 0 ≤ k → k < W.fed → -128 ≤ W.tp k ∧ W.tp k ≤ 127
theorem MS.lnd {f f2 : Int → Int} {L : PL} {B : St} (N : MS (fun j => f (3600 + j)) L.A) (P : L.Ok) (M : MS f B) (O : B.Ok) (ya : ∀ j, 0 ≤ j → j < 458 → j ≠ 3 → f2 j = f (3600 + j)) (yb : ∀ j, 458 ≤ j → j < 900 → f2 j = f j) (yc : f2 3 = f 3) : MS f2 (L.A.lnd B) := by
  have n6 := P.O.nq
  have d6 := P.O.nd
  have r6 := O.nr
  have s6 := O.rsp
  have no : ∀ s, ¬ ins (L.A.lnd B) s := by
    intro s z
    have z0 : 0 ≤ s := z.1
    have z1 : s < 0 := z.2
    omega
  refine ⟨?_, ?_, ?_, ?_, ?_, ?_, ?_, fun q hq => ?_, fun m q hm hq => ?_, fun m q r a hm hq r0 r1 b0 b1 => ?_, fun i i0 i1 => ?_, fun i i0 i1 => ?_, fun s hs => absurd hs (no s), fun s hs => absurd hs (no s), fun s hs => absurd hs (no s), fun s hs => absurd hs (no s), fun s hs => absurd hs (no s), fun s hs => absurd hs (no s), fun s hs _ => absurd hs (no s), fun s q hs _ => absurd hs (no s), fun r r0 r1 => ?_, fun k k0 k1 => ?_, fun k k0 k1 => ?_⟩
  · rw [ya 0 (by decide) (by decide) (by decide)]; exact N.nq
  · rw [ya 1 (by decide) (by decide) (by decide)]; exact N.nd
  · rw [ya 2 (by decide) (by decide) (by decide)]; exact N.ns.trans P.ns
  · rw [yc]; exact M.nr
  · rw [ya 4 (by decide) (by decide) (by decide)]; exact N.wk
  · rw [ya 5 (by decide) (by decide) (by decide)]; exact N.ca
  · rw [ya 6 (by decide) (by decide) (by decide)]; exact N.cm
  · have h1 := hq.1
    have h2 : q < L.A.nq := hq.2
    rw [ya _ (by omega) (by omega) (by omega)]; exact N.ch q hq
  · have h1 := hq.1
    have h2 : q < L.A.nq := hq.2
    have := bit1_le hm
    rw [ya _ (by omega) (by omega) (by omega)]; exact N.gb m q hm hq
  · have h1 := hq.1
    have h2 : q < L.A.nq := hq.2
    have := bit1_le hm
    have r1 : r < L.A.rows m q := r1
    have b1 : a < L.A.ch q := b1
    have h3 := (P.O.rows hm hq).2
    have h4 := P.O.ch q hq
    rw [ya _ (by omega) (by omega) (by omega)]; exact N.wt m q r a hm hq r0 r1 b0 b1
  · have i1 : i < L.A.nd := i1
    rw [ya _ (by omega) (by omega) (by omega)]; exact N.dx i i0 i1
  · have i1 : i < L.A.nd := i1
    rw [ya _ (by omega) (by omega) (by omega)]; exact N.dy i i0 i1
  · have r1 : r ≤ B.nr := r1
    rw [yb _ (by omega) (by omega)]; exact M.rs r r0 r1
  · have k1 : k < B.rs B.nr := k1
    rw [yb _ (by omega) (by omega)]; exact M.op k k0 k1
  · have k1 : k < B.rs B.nr := k1
    rw [yb _ (by omega) (by omega)]; exact M.nm k k0 k1
theorem C192 {W : Wd} (G : W.Rg) (G2 : W.tb) {n : Int} : Mw 192 [xR 138, xI n] 7 W (W.land n) := by
  intro g h C O d Q hQ
  have K := C.1
  have M := C.2.2.cur
  have X := C.2.1
  have D := C.2.2
  have f7 := G.2.1
  unfold Wd.land at hQ
  have no : ¬ (0 ≤ n ∧ n ≤ W.fed) → Rn (d + 6) 192 12 [xR 138, xI n, xU, xU] [] g h Q := by
    intro z
    rw [if_neg z] at hQ
    rw [B192_12, ga K.k0]
    simp only [S160 (k := K.k0), S161 (k := K.k0), S162 (k := K.k0), o1, o0, List.cons_append, List.nil_append, B192_17]
    exact mst C hQ
  rw [E192]
  by_cases n0 : n < 0
  · rw [if_pos n0]; exact no (by omega)
  rw [if_neg n0, ga K.k0, X.fed]
  by_cases n1 : n ≤ W.fed
  case neg => rw [if_neg n1]; exact no (by omega)
  rw [if_pos ⟨by omega, n1⟩] at hQ
  clear no
  obtain ⟨m, hm⟩ : ∃ m : Nat, n = (m : Int) := ⟨n.toNat, by omega⟩
  subst hm
  have m7 : m ≤ 700 := by omega
  have eR : landR W (m : Int) = sLand W.tp m 701 PL.empty (skp W.tp m 0) := rfl
  rw [eR] at hQ
  rw [if_pos n1, ga K.k0]
  refine M180 K m7 (t := W.tp) (fun k hk => D.tp k (by omega) (by omega)) (fun k hk => G2 k (by omega) (by omega)) (fun h1 f1 j1 T1 => ?_)
  have K1 : MK g h1 := K.keep (fun j hj => j1 j (by omega))
  have T2 : MP (hset h1 138 18 0) W.tp m (skp W.tp m 0) := T1.bit
  have i2 : ∀ j, j ≠ 18 → hset h1 138 18 0 138 j = h1 138 j := fun j hj => hset_i _ _ hj
  have f2 : ∀ a, a ≠ 138 → hset h1 138 18 0 a = h1 a := fun a ha => hset_a _ _ _ ha
  have x2 : hset h1 138 18 0 138 18 = 0 := hset_e _ _ _ _
  rw [o0, List.nil_append, B192_23, ga K.k0, ga K.k0]
  generalize hset h1 138 18 0 = h2 at *
  have K2 : MK g h2 := K1.keep (fun j hj => i2 j (by omega))
  refine S156 K2.k0 K2.pat K2.kat K2.lat (by decide) (fun h3 f3 k3 z3 => ?_)
  have T3 : MP h3 W.tp m (skp W.tp m 0) := T2.keep (f3 138 (by decide)) (f3 144 (by decide))
  have x3 : h3 138 18 = 0 := by rw [f3 138 (by decide)]; exact x2
  have N3 : NI h3 PL.empty := NI.empty z3 x3
  have K3 : MK g h3 := K2.keep (fun j hj => by rw [f3 138 (by decide)])
  have g3 : ∀ a, a ≠ 138 → a ≠ 139 → a ≠ 144 → h3 a = h a := fun a a0 a1 a2 => by rw [f3 a a1, f2 a a0, f1 a a0 a2]
  have c3 : ∀ j, j < 3600 → h3 139 j = h 139 j := fun j hj => by rw [k3 j (by omega), f2 139 (by decide), f1 139 (by decide) (by decide)]
  have j3 : ∀ j, (j < 9 ∨ 18 < j ∨ j = 15) → h3 138 j = h 138 j := fun j hj => by rw [f3 138 (by decide), i2 j (by omega), j1 j (by omega)]
  clear f1 j1 T1 K1 f2 i2 x2 K2 f3 k3 z3 T2
  generalize eP : skp W.tp m 0 = p at *
  have pm : p ≤ m := by rw [← eP]; exact (skp_r W.tp (Nat.zero_le m)).2
  -- how it ends
  have hf : ∀ (q pl : Int) (h4 : KH), sLand W.tp m 701 PL.empty p = .inr (q, pl) → 0 < q → FN h3 h4 → MF h4 q pl → Rn (d + 6) 192 48 [xR 138, xI (m : Int), xI 0, xU] [] g h4 Q := by
    intro q pl h4 e q0 F4 X4
    have K4 := F4.mk K3
    rw [e] at hQ
    have y17 : hset h4 138 15 q 138 17 = q := by rw [hset_i _ _ (by decide)]; exact X4.fk
    rw [B192_48, if_pos rfl, ga K.k0, ga K.k0, ga K.k0, X4.fk, y17, if_neg (by omega), ga K.k0]
    simp only [S160 (k := K.k0), S161 (k := K.k0), S162 (k := K.k0), o1, o0, List.cons_append, List.nil_append, B192_103]
    refine hQ _ (C.rd G (fun a a0 a1 a2 a3 a4 => by rw [hset_a _ _ _ (by omega), hset_a _ _ _ (by omega), F4.1 a (by omega) (by omega) a3, g3 a (by omega) (by omega) a2]) (fun j j0 j1 => by rw [hset_i _ _ j0, hset_i _ _ (by omega), F4.2.1 j (by omega), j3 j (by omega)]) (hset_e _ _ _ _) (by rw [hset_i _ _ (by decide), hset_i _ _ (by decide)]; exact X4.fd) (by rw [hset_i _ _ (by decide), hset_e]) (by rw [hset_i _ _ (by decide), hset_i _ _ (by decide)]; exact X4.fp) (M.keepb O (fun j j0 j1 => by rw [hset_a _ _ _ (by decide), hset_a _ _ _ (by decide), F4.2.2 j (by omega), c3 j (by omega)])) (fun j j0 j1 => by rw [hset_a _ _ _ (by decide), hset_a _ _ _ (by decide), F4.2.2 j (by omega), c3 j (by omega)])) (fun a ha => by rw [hset_a _ _ _ (by omega), hset_a _ _ _ (by omega), F4.1 a (by omega) (by omega) (by omega), g3 a (by omega) (by omega) (by omega)])
  have hl : ∀ (L : PL) (p2 : Nat) (h4 : KH), sLand W.tp m 701 PL.empty p = .inl L → L.Ok → FN h3 h4 → NI h4 L → MP h4 W.tp m p2 → Rn (d + 6) 192 48 [xR 138, xI (m : Int), xI 0, xU] [] g h4 Q := by
    intro L p2 h4 e P F4 N4 T4
    have K4 := F4.mk K3
    rw [e] at hQ
    have i5 : ∀ j, j ≠ 15 → hset h4 138 15 0 138 j = h4 138 j := fun j hj => hset_i _ _ hj
    have f5 : ∀ a, a ≠ 138 → hset h4 138 15 0 a = h4 a := fun a ha => hset_a _ _ _ ha
    have x5 : hset h4 138 15 0 138 15 = 0 := hset_e _ _ _ _
    have y17 : hset h4 138 15 0 138 17 = 0 := by rw [i5 17 (by decide)]; exact T4.fk
    rw [B192_48, if_pos rfl, ga K.k0, ga K.k0, ga K.k0, T4.fk, y17, if_pos (by decide), ga K.k0, ga K.k0, i5 0 (by decide), K4.pat, ga ⟨K.kat, by decide, by rw [K.lat]; decide⟩, ga ⟨K.kat, by decide, by decide, by rw [K.lat]; decide⟩]
    generalize hset h4 138 15 0 = h5 at *
    have f6 : ∀ a, a ≠ 139 → hset h5 139 3603 (h5 139 3) a = h5 a := fun a ha => hset_a _ _ _ ha
    have c6 : ∀ j, j ≠ 3603 → hset h5 139 3603 (h5 139 3) 139 j = h4 139 j := fun j hj => by rw [hset_i _ _ hj, f5 139 (by decide)]
    have x6 : hset h5 139 3603 (h5 139 3) 139 3603 = h 139 3 := by rw [hset_e, f5 139 (by decide), F4.2.2 3 (by decide), c3 3 (by decide)]
    generalize hset h5 139 3603 (h5 139 3) = h6 at *
    have lp : ∀ u k : Nat, k + u = 458 → ∀ h7 : KH, (∀ a, a ≠ 139 → h7 a = h6 a) → (∀ j, 0 ≤ j → j < (k : Int) → h7 139 j = h6 139 (3600 + j)) → (∀ j, (k : Int) ≤ j → h7 139 j = h6 139 j) → Rn (d + 6) 192 120 [xR 138, xI (m : Int), xI 0, xI (k : Int)] [] g h7 Q := by
      intro u
      induction u with
      | zero =>
        intro k hk h7 f7 a7 b7
        have K7 : MK g h7 := K4.keep (fun j hj => by rw [f7 138 (by decide), f6 138 (by decide), i5 j (by omega)])
        have e0 : h7 139 0 = L.A.nq := by rw [a7 0 (by decide) (by omega), c6 _ (by decide)]; exact N4.ms.nq
        rw [B192_120, if_pos (by omega), ga K.k0, K7.pat, ga ⟨K.kat, by decide, by rw [K.lat]; decide⟩, ga K.k0, e0]
        simp only [S160 (k := K.k0), S161 (k := K.k0), S162 (k := K.k0), o1, o0, List.cons_append, List.nil_append, B192_159]
        have y7 : ∀ a, a ≠ 138 → a ≠ 139 → h7 a = h4 a := fun a a0 a1 => by rw [f7 a a1, f6 a a1, f5 a a0]
        have z7 : ∀ j, j ≠ 15 → h7 138 j = h4 138 j := fun j hj => by rw [f7 138 (by decide), f6 138 (by decide), i5 j hj]
        have c7 : ∀ j, 458 ≤ j → j < 3600 → h7 139 j = h 139 j := fun j j0 j1 => by rw [b7 j (by omega), c6 j (by omega), F4.2.2 j j1, c3 j j1]
        refine hQ _ (C.rd G (fun a a0 a1 a2 a3 a4 => by rw [hset_a _ _ _ (by omega), y7 a (by omega) (by omega), F4.1 a (by omega) (by omega) a3, g3 a (by omega) (by omega) a2]) (fun j j0 j1 => by rw [hset_i _ _ j0, z7 j (by omega), F4.2.1 j (by omega), j3 j (by omega)]) (hset_e _ _ _ _) (by rw [hset_i _ _ (by decide), z7 9 (by decide)]; exact T4.fd) (by rw [hset_i _ _ (by decide), f7 138 (by decide), f6 138 (by decide), x5]) (by rw [hset_i _ _ (by decide), z7 16 (by decide)]; exact T4.fp) ?_ (fun j j0 j1 => by rw [hset_a _ _ _ (by decide), c7 j (by omega) j1])) (fun a ha => by rw [hset_a _ _ _ (by omega), y7 a (by omega) (by omega), F4.1 a (by omega) (by omega) (by omega), g3 a (by omega) (by omega) (by omega)])
        rw [hset_a _ _ _ (by decide)]
        refine MS.lnd (f := fun j => if j < 3600 then h 139 j else h4 139 j) ?_ P (M.keepb O (fun j j0 j1 => if_pos (by omega))) O (fun j j0 j1 j2 => ?_) (fun j j0 j1 => ?_) ?_
        · have e3 : (fun j => (fun j => if j < 3600 then h 139 j else h4 139 j) (3600 + j)) = fun j => if 3600 + j < 3600 then h 139 (3600 + j) else h4 139 (3600 + j) := rfl
          rw [e3]
          have small := N4.ms
          refine MS.keepb P.O (fun j j0 j1 => ?_) small
          exact if_neg (by omega)
        · show _ = if 3600 + j < 3600 then _ else _
          rw [if_neg (by omega), a7 j j0 (by omega), c6 _ (by omega)]
        · show _ = if j < 3600 then _ else _
          rw [if_pos (by omega), c7 j j0 (by omega)]
        · show _ = if (3 : Int) < 3600 then _ else _
          rw [if_pos (by decide), a7 3 (by decide) (by omega)]
          exact x6
      | succ u ih =>
        intro k hk h7 f7 a7 b7
        have K7 : MK g h7 := K4.keep (fun j hj => by rw [f7 138 (by decide), f6 138 (by decide), i5 j (by omega)])
        have e1 : ((k : Int) + 1) = ((k + 1 : Nat) : Int) := by omega
        rw [B192_120, if_neg (by omega), ga K.k0, ga K.k0, K7.pat, w32_id (x := 3600 + (k : Int)) (by omega) (by omega), w32_id (x := (k : Int) + 1) (by omega) (by omega), ga ⟨K.kat, by omega, by rw [K.lat]; omega⟩, ga ⟨K.kat, by decide, by omega, by rw [K.lat]; omega⟩, e1]
        refine ih (k + 1) (by omega) _ (fun a ha => by rw [hset_a _ _ _ ha, f7 a ha]) (fun j j0 j1 => ?_) (fun j hj => by rw [hset_i _ _ (by omega), b7 j (by omega)])
        by_cases ej : j = k
        · rw [ej, hset_e, b7 _ (by omega)]
        · rw [hset_i _ _ ej]; exact a7 j j0 (by omega)
    exact lp 458 0 (by omega) h6 (fun _ _ => rfl) (fun j j0 j1 => by omega) (fun _ _ => rfl)
  have nx := L192 K3 (d := d + 1) (a1 := (m : Int)) (Q := Q) 701 PL.empty p h3 (by omega) pm (FN.rfl_ h3) N3 PL.empty_ok T3 hf hl
  have xx := mkd_0 W.tp m p
  rw [o0, List.nil_append, B192_35, ga K.k0, T3.mu.tk]
  by_cases z : kd W.tp m p = 0
  · rw [bzf (fun y => y z)] at nx
    rw [if_pos (by rw [xx]; exact z), B192_47]
    exact nx
  · rw [bzt z] at nx
    rw [if_neg (fun y => z (by rw [xx] at y; exact y)), B192_47]
    exact nx
