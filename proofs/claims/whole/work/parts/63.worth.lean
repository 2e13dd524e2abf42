/-! worth, deters -/
def St.spt (A : St) (L : List Int) (i : Nat) : Int := A.tt (L.getD i 0) - A.fr (L.getD i 0) + (if i = 0 then 0 else A.mins (A.dr (L.getD (i - 1) 0)) (A.dr (L.getD i 0)))
def St.wrl (A : St) (L : List Int) (mi lo acc : Int) : Nat → Int
  | 0 => acc
  | i + 1 => if lo < A.spt L i * 16 * mi then or32 (A.wrl L mi lo acc i) (shl32 1 (L.getD i 0)) else A.wrl L mi lo acc i
def St.wrt (A : St) (mi lo : Int) : Nat → Int
  | 0 => 0
  | a + 1 => A.wrl (A.ordl a A.ns.toNat) mi lo (A.wrt mi lo a) (A.ordl a A.ns.toNat).length
theorem spt_r {A : St} (O : A.Ok) {L : List Int} (hm : ∀ j, j < L.length → ins A (L.getD j 0)) {i : Nat} (hi : i < L.length) : 0 ≤ A.spt L i ∧ A.spt L i ≤ 3400 := by
  have h1 := hm i hi
  have h2 := O.fr _ h1
  have h3 := O.tt _ h1
  unfold St.spt
  split
  · omega
  · have h4 := O.mins (O.dr _ (hm (i - 1) (by omega))) (O.dr _ h1)
    omega
theorem spt_m {A : St} (O : A.Ok) {L : List Int} (hm : ∀ j, j < L.length → ins A (L.getD j 0)) {i : Nat} (hi : i < L.length) {mi : Int} (h : 0 ≤ mi ∧ mi ≤ 99) : 0 ≤ A.spt L i * 16 ∧ A.spt L i * 16 ≤ 54400 ∧ 0 ≤ A.spt L i * 16 * mi ∧ A.spt L i * 16 * mi ≤ 5385600 := by
  have h1 := spt_r O hm hi
  have h2 : 0 ≤ A.spt L i * 16 := by omega
  refine ⟨by omega, by omega, Int.mul_nonneg h2 h.1, ?_⟩
  have := Int.mul_le_mul (show A.spt L i * 16 ≤ 54400 by omega) h.2 h.1 (by decide)
  omega
theorem wrl_r {A : St} {L : List Int} {mi lo acc : Int} (ha : -2147483648 ≤ acc ∧ acc ≤ 2147483647) : ∀ i, -2147483648 ≤ A.wrl L mi lo acc i ∧ A.wrl L mi lo acc i ≤ 2147483647 := by
  intro i
  induction i with
  | zero => exact ha
  | succ i ih =>
    unfold St.wrl
    split
    · exact or32_r _ _
    · exact ih
theorem wrt_r {A : St} {mi lo : Int} : ∀ a, -2147483648 ≤ A.wrt mi lo a ∧ A.wrt mi lo a ≤ 2147483647 := by
  intro a
  induction a with
  | zero => exact ⟨by show (-2147483648 : Int) ≤ 0; decide, by show (0 : Int) ≤ 2147483647; decide⟩
  | succ a ih => unfold St.wrt; exact wrl_r ih _
theorem S6 {g : KG} {h : KH} {l r : Int} {A : St} (C1 : CK g h) (S : SR g h 6 l r A) (hl : l = 7 ∨ l = 39) (hr : r = 20 ∨ r = 52) (O : A.Ok) {mi lo : Int} (hmi : 0 ≤ mi ∧ mi ≤ 99) {d : Nat} {Q : Option KV → KG → KH → Prop} (hQ : ∀ h2 : KH, (∀ c, c ≠ 33 → h2 c = h c) → Q (some (xI (A.wrt mi lo 4))) g h2) : Cl (d + 3) 6 [xR 32, xI mi, xI lo] g h Q := by
  have hns := O.ns
  have outer : ∀ n a : Nat, a + n = 4 → ∀ (h1 : KH) (x y z : KV), (∀ c, c ≠ 33 → h1 c = h c) → ∀ w : KV, Rn (d + 2) 6 5 [xR 32, xI mi, xI lo, xI (A.wrt mi lo a), xI (a : Int), x, y, z, w] [] g h1 Q := by
    intro n
    induction n with
    | zero =>
      intro a ha h1 x y z q2 w
      have ha : a = 4 := by omega
      rw [B6_5, if_pos (by omega), ha]
      exact hQ h1 q2
    | succ n ih =>
      intro a ha h1 x y z q2 w
      have e1 : ((a : Int) + 1) = ((a + 1 : Nat) : Int) := by omega
      have S1 : SR g h1 6 l r A := S.now hl hr (fun c _ _ _ => q2 c (by omega))
      have C11 : CK g h1 := C1.keepg (q2 1 (by decide)) (by rw [q2 2 (by decide)]) (by rw [q2 4 (by decide)]) (by rw [q2 5 (by decide)]) (q2 31 (by decide)) (q2 32 (by decide)) (q2 36 (by decide)) (fun t t0 t1 => by rw [q2 _ (by omega)])
      rw [B6_5, if_neg (by omega), ga C1.k32]
      refine S3 C11 S1 hl hr O (fun h2 a2 f2 => ?_)
      have g2 : ∀ c, c ≠ 33 → h2 c = h c := fun c hc => by rw [f2 c hc, q2 c hc]
      have S2 : SR g h2 6 l r A := S.now hl hr (fun c _ _ _ => g2 c (by omega))
      have y32 : h2 32 = h 32 := g2 32 (by decide)
      have len := ordl_len A a A.ns.toNat
      have mem : ∀ j, j < (A.ordl a A.ns.toNat).length → ins A ((A.ordl a A.ns.toNat).getD j 0) := fun j hj => by
        have z := (ordl_mem A a _ _).mp (getD_mem hj)
        exact ⟨z.1, by omega⟩
      have nx := fun x y z => ih (a + 1) (by omega) h2 x y z g2
      rw [St.wrt] at nx
      generalize hLd : A.ordl a A.ns.toNat = L at *
      have inner : ∀ m i : Nat, i + m = L.length → ∀ u v : KV, Rn (d + 2) 6 22 [xR 32, xI mi, xI lo, xI (A.wrl L mi lo (A.wrt mi lo a) i), xI (a : Int), xI (L.length : Int), xI (i : Int), u, v] [] g h2 Q := by
        intro m
        induction m with
        | zero =>
          intro i hi u v
          have hi : i = L.length := by omega
          rw [B6_22, if_pos (by omega), w32_id (by omega) (by omega), e1, hi]
          exact nx _ _ _ _
        | succ m im =>
          intro i hi u v
          have e2 : ((i : Int) + 1) = ((i + 1 : Nat) : Int) := by omega
          have mi1 := mem i (by omega)
          have mi10 := mi1.1
          have mi11 := mi1.2
          have hfr := O.fr _ mi1
          have htt := O.tt _ mi1
          have b1 := a2 i (by omega)
          have sm := spt_m O mem (i := i) (by omega) hmi
          have sr := spt_r O mem (i := i) (by omega)
          have nx2 := im (i + 1) (by omega)
          rw [St.wrl] at nx2
          have fin : ∀ sp, sp = A.spt L i → Rn (d + 2) 6 108 [xR 32, xI mi, xI lo, xI (A.wrl L mi lo (A.wrt mi lo a) i), xI (a : Int), xI (L.length : Int), xI (i : Int), xI (L.getD i 0), xI sp] [] g h2 Q := by
            intro sp hsp
            rw [B6_108, hsp, w32_id (x := A.spt L i * 16) (by omega) (by omega), w32_id (by omega) (by omega)]
            by_cases hc : lo < A.spt L i * 16 * mi
            · simp only [if_pos hc] at nx2
              rw [if_neg (by omega), ga ⟨mi10, by omega⟩, B6_126, w32_id (by omega) (by omega), e2]
              exact nx2 _ _
            · simp only [if_neg hc] at nx2
              rw [if_pos (by omega), B6_126, w32_id (by omega) (by omega), e2]
              exact nx2 _ _
          rw [B6_22, if_neg (by omega), ga C1.k32, y32, C1.p321, ga ⟨C1.k33, by omega, by rw [C1.l33]; omega⟩, ga C1.k32, C1.p320, ga S.k0, S2.n6, b1, ga ⟨S.m26, mi10, by rw [S.w26]; omega⟩, ga C1.k32, ga S.k0, S2.n5, ga ⟨S.m25, mi10, by rw [S.w25]; omega⟩, S2.v26 _ mi1, S2.v25 _ mi1, w32_id (by omega) (by omega)]
          by_cases h0 : i = 0
          · rw [if_pos (by omega)]
            exact fin _ (by unfold St.spt; rw [if_pos h0, Int.add_zero])
          · have e3 : ((i : Int) - 1) = ((i - 1 : Nat) : Int) := by omega
            have mj := mem (i - 1) (by omega)
            have mj0 := mj.1
            have mj1 := mj.2
            have b2 := a2 (i - 1) (by omega)
            rw [if_neg (by omega), ga C1.k32, ga S.k0, ga C1.k32, ga S.k0, ga C1.k32, w32_id (by omega) (by omega), e3, ga ⟨C1.k33, by omega, by rw [C1.l33]; omega⟩, b2, S2.n4, ga ⟨S.m24, mj0, by rw [S.w24]; omega⟩, ga C1.k32, ga S.k0, ga ⟨S.m24, mi10, by rw [S.w24]; omega⟩, S2.v24 _ mi1, S2.v24 _ mj, S2.pl, ga S.L.k0]
            refine S24 S2.L O (O.dr _ mj) (O.dr _ mi1) ?_
            have mm := O.mins (O.dr _ mj) (O.dr _ mi1)
            rw [o1, List.cons_append, List.nil_append, B6_105, w32_id (by omega) (by omega)]
            exact fin _ (by unfold St.spt; rw [if_neg h0])
      rw [o1, List.cons_append, List.nil_append, B6_17]
      exact inner L.length 0 (by omega) _ _
  rw [E6]
  exact outer 4 0 (by omega) h _ _ _ (fun _ _ => rfl) _
theorem S253 {g : KG} {h : KH} {A : St} (K : MK g h) (M : MS (h 139) A) (O : A.Ok) {mi ri fi : Int} (hmi : 0 ≤ mi ∧ mi ≤ 99) (hri : 0 ≤ ri ∧ ri ≤ 16) (hfi : 0 ≤ fi ∧ fi ≤ 9999) {d : Nat} {Q : Option KV → KG → KH → Prop} (hQ : ∀ h2 : KH, (∀ c, c ≠ 138 → c ≠ 147 → h2 c = h c) → (∀ j, j ≠ 30 → h2 138 j = h 138 j) → Q (some (xI (A.wrt mi (ri * fi) 4))) g h2) : Cl (d + 3) 253 [xR 138, xI mi, xI ri, xI fi] g h Q := by
  have hns := O.ns
  have hlo0 : 0 ≤ ri * fi := Int.mul_nonneg hri.1 hfi.1
  have hlo1 : ri * fi ≤ 159984 := by
    have := Int.mul_le_mul hri.2 hfi.2 hfi.1 (by decide : (0 : Int) ≤ 16)
    omega
  have outer : ∀ n a : Nat, a + n = 4 → ∀ (h1 : KH) (x y z : KV), (∀ c, c ≠ 138 → c ≠ 147 → h1 c = h c) → (∀ j, j ≠ 30 → h1 138 j = h 138 j) → Rn (d + 2) 253 6 [xR 138, xI mi, xI ri, xI fi, xI (A.wrt mi (ri * fi) a), xI (a : Int), x, y, z] [] g h1 Q := by
    intro n
    induction n with
    | zero =>
      intro a ha h1 x y z q2 q3
      have ha : a = 4 := by omega
      rw [B253_6, if_pos (by omega), ha]
      exact hQ h1 q2 q3
    | succ n ih =>
      intro a ha h1 x y z q2 q3
      have e1 : ((a : Int) + 1) = ((a + 1 : Nat) : Int) := by omega
      have K1 : MK g h1 := K.keep (fun j hj => q3 j (by omega))
      have M1 : MS (h1 139) A := by rw [q2 139 (by decide) (by decide)]; exact M
      rw [B253_6, if_neg (by omega), ga K.k0]
      refine S225 K1 M1 O (fun h2 a2 n2 f2 t2 => ?_)
      have g2 : ∀ c, c ≠ 138 → c ≠ 147 → h2 c = h c := fun c hc hd => by rw [f2 c hc hd, q2 c hc hd]
      have g3 : ∀ j, j ≠ 30 → h2 138 j = h 138 j := fun j hj => by rw [t2 j hj, q3 j hj]
      have K2 : MK g h2 := K.keep (fun j hj => g3 j (by omega))
      have M2 : MS (h2 139) A := by rw [g2 139 (by decide) (by decide)]; exact M
      have len := ordl_len A a A.ns.toNat
      have mem : ∀ j, j < (A.ordl a A.ns.toNat).length → ins A ((A.ordl a A.ns.toNat).getD j 0) := fun j hj => by
        have z := (ordl_mem A a _ _).mp (getD_mem hj)
        exact ⟨z.1, by omega⟩
      have nx := fun x y z => ih (a + 1) (by omega) h2 x y z g2 g3
      rw [St.wrt] at nx
      have wr0 := wrt_r (A := A) (mi := mi) (lo := ri * fi) a
      generalize hLd : A.ordl a A.ns.toNat = L at *
      have inner : ∀ m i : Nat, i + m = L.length → ∀ u v : KV, Rn (d + 2) 253 21 [xR 138, xI mi, xI ri, xI fi, xI (A.wrl L mi (ri * fi) (A.wrt mi (ri * fi) a) i), xI (a : Int), xI (i : Int), u, v] [] g h2 Q := by
        intro m
        induction m with
        | zero =>
          intro i hi u v
          have hi : i = L.length := by omega
          rw [B253_21, ga K.k0, n2, if_pos (by omega), w32_id (by omega) (by omega), e1, hi]
          exact nx _ _ _
        | succ m im =>
          intro i hi u v
          have e2 : ((i : Int) + 1) = ((i + 1 : Nat) : Int) := by omega
          have mi1 := mem i (by omega)
          have mi10 := mi1.1
          have mi11 := mi1.2
          have hfr := O.fr _ mi1
          have htt := O.tt _ mi1
          have b1 := a2 i (by omega)
          have sm := spt_m O mem (i := i) (by omega) hmi
          have sr := spt_r O mem (i := i) (by omega)
          have wr := wrl_r (A := A) (L := L) (mi := mi) (lo := ri * fi) wr0 i
          have nx2 := im (i + 1) (by omega)
          rw [St.wrl] at nx2
          have fin : ∀ wy, A.tt (L.getD i 0) - A.fr (L.getD i 0) + wy = A.spt L i → Rn (d + 2) 253 88 [xR 138, xI mi, xI ri, xI fi, xI (A.wrl L mi (ri * fi) (A.wrt mi (ri * fi) a) i), xI (a : Int), xI (i : Int), xI (L.getD i 0), v] [xI wy, xI (A.tt (L.getD i 0) - A.fr (L.getD i 0))] g h2 Q := by
            intro wy hwy
            rw [B253_88, hwy, w32_id (x := A.spt L i) (by omega) (by omega), w32_id (x := A.spt L i * 16) (by omega) (by omega), w32_id (x := A.spt L i * 16 * mi) (by omega) (by omega), w32_id (x := ri * fi) (by omega) (by omega)]
            by_cases hc : ri * fi < A.spt L i * 16 * mi
            · simp only [if_pos hc] at nx2
              rw [if_neg (by omega), ga ⟨mi10, by omega⟩, B253_114, w32_id (by omega) (by omega), e2]
              exact nx2 _ _
            · simp only [if_neg hc] at nx2
              rw [if_pos (by omega), B253_114, or32_0 wr, w32_id (by omega) (by omega), e2]
              exact nx2 _ _
          rw [B253_21, ga K.k0, n2, if_neg (by omega), ga K.k0, K2.p28, ga ⟨K.k147, by omega, by rw [K.l147]; omega⟩, ga K.k0, b1, S205 K2 ⟨mi10, by omega⟩ (by decide), M2.tt _ mi1, o1, List.cons_append, List.nil_append, B253_46, ga K.k0, S205 K2 ⟨mi10, by omega⟩ (by decide), M2.fr _ mi1, o1, List.cons_append, List.nil_append, B253_53, w32_id (x := A.tt (L.getD i 0) - A.fr (L.getD i 0)) (by omega) (by omega)]
          by_cases h0 : i = 0
          · rw [if_neg (by omega)]
            exact fin 0 (by unfold St.spt; rw [if_pos h0])
          · have e3 : ((i : Int) - 1) = ((i - 1 : Nat) : Int) := by omega
            have mj := mem (i - 1) (by omega)
            have mj0 := mj.1
            have mj1 := mj.2
            have b2 := a2 (i - 1) (by omega)
            rw [if_pos (by omega), ga K.k0, w32_id (x := (i : Int) - 1) (by omega) (by omega), e3, K2.p28, ga ⟨K.k147, by omega, by rw [K.l147]; omega⟩, ga K.k0, b2, S205 K2 ⟨mj0, by omega⟩ (by decide), M2.dr _ mj, o1, List.cons_append, List.nil_append, B253_78, ga K.k0, S205 K2 ⟨mi10, by omega⟩ (by decide), M2.dr _ mi1, o1, List.cons_append, List.nil_append, B253_85, ga K.k0]
            refine S223 K2 M2 O (O.dr _ mj) (O.dr _ mi1) ?_
            rw [o1, List.cons_append, List.nil_append]
            exact fin _ (by unfold St.spt; rw [if_neg h0])
      rw [o0, List.nil_append, B253_18]
      exact inner L.length 0 (by omega) _ _
  rw [E253]
  exact outer 4 0 (by omega) h _ _ _ (fun _ _ _ => rfl) (fun _ _ => rfl)
def Wd.worth (W : Wd) (mi ri fi : Int) : Int × Int := if (0 ≤ mi ∧ mi ≤ 99) ∧ (0 ≤ ri ∧ ri ≤ 16) ∧ 0 ≤ fi ∧ fi ≤ 9999 then (0, W.cur.wrt mi (ri * fi) 4) else (1, -1)
theorem C125 {W : Wd} {mi ri fi : Int} : Ci 125 [xR 0, xI mi, xI ri, xI fi] 4 W (W.worth mi ri fi) := by
  intro g h C d Q hQ
  have C0 := C
  obtain ⟨l, r, l2, r2, C1, C2, C3, C4, C5, C6, C7⟩ := C
  unfold Wd.worth at hQ
  have no : ¬ ((0 ≤ mi ∧ mi ≤ 99) ∧ (0 ≤ ri ∧ ri ≤ 16) ∧ 0 ≤ fi ∧ fi ≤ 9999) → Rn (d + 3) 125 36 [xR 0, xI mi, xI ri, xI fi] [] g h Q := by
    intro z
    rw [if_neg z] at hQ
    rw [B125_36, ga C3.k0]
    simp only [S133 (k := C3.k0), S134 (k := C3.k0), S135 (k := C3.k0), S136 (k := C3.k0), o1, o0, List.cons_append, List.nil_append, B125_41]
    exact cst C0 hQ
  rw [E125, S146]
  by_cases h1 : 0 ≤ mi ∧ mi ≤ 99
  · rw [bzt h1, o1, List.cons_append, List.nil_append, B125_9, if_neg (by decide), S146]
    by_cases h2 : 0 ≤ ri ∧ ri ≤ 16
    · rw [bzt h2, o1, List.cons_append, List.nil_append, B125_21, if_neg (by decide), S146]
      by_cases h3 : 0 ≤ fi ∧ fi ≤ 9999
      · rw [if_pos ⟨h1, h2, h3⟩] at hQ
        have hl : l = 7 ∨ l = 39 := by have := C7.l; omega
        have hr : r = 20 ∨ r = 52 := by have := C7.r; omega
        have hlo0 : 0 ≤ ri * fi := Int.mul_nonneg h2.1 h3.1
        have hlo1 : ri * fi ≤ 159984 := by
          have := Int.mul_le_mul h2.2 h3.2 h3.1 (by decide : (0 : Int) ≤ 16)
          omega
        rw [bzt h3, o1, List.cons_append, List.nil_append, B125_33, if_pos (by decide), ga C3.k0, C3.p6, ga C1.k32, w32_id (by omega) (by omega)]
        refine S6 C1 C7.S hl hr C7.O h1 (fun h2 f2 => ?_)
        rw [o1, List.cons_append, List.nil_append, B125_54, ga C3.k0]
        simp only [S133 (k := C3.k0), S134 (k := C3.k0), S135 (k := C3.k0), S136 (k := C3.k0), o1, o0, List.cons_append, List.nil_append, B125_57]
        exact hQ _ (C0.st (fun c c0 c1 hq => by unfold qc at hq; rw [hset_a _ _ _ (by omega), f2 c (by omega)]) (fun j hj => by rw [hset_i _ _ hj, f2 0 (by decide)]) (by rw [hset_a _ _ _ (by decide), f2 35 (by decide)]) (hset_e _ _ _ _)) (fun c hc => by rw [hset_a _ _ _ (by omega), f2 c (by omega)])
      · rw [bzf h3, o1, List.cons_append, List.nil_append, B125_33, if_neg (by decide)]
        exact no (fun z => h3 z.2.2)
    · rw [bzf h2, o1, List.cons_append, List.nil_append, B125_21, if_pos rfl]
      exact no (fun z => h2 z.2.1)
  · rw [bzf h1, o1, List.cons_append, List.nil_append, B125_9, if_pos rfl]
    exact no (fun z => h1 z.1)
theorem S254 {g : KG} {h : KH} {d : Nat} {Q : Option KV → KG → KH → Prop} {mi fi : Int} : Cl (d + 1) 254 [xI mi, xI fi] g h Q = Q (some (xI (bz ((0 ≤ mi ∧ mi ≤ 99) ∧ 0 ≤ fi ∧ fi ≤ 9999)))) g h := by
  rw [E254]
  by_cases a1 : mi < 0
  · rw [if_pos a1, bzf (by omega), B254_25, B254_26, g01]
  · by_cases a2 : 99 < mi
    · rw [if_neg a1, if_pos a2, bzf (by omega), B254_25, B254_26, g01]
    · by_cases a3 : fi < 0
      · rw [if_neg a1, if_neg a2, if_pos a3, bzf (by omega), B254_25, B254_26, g01]
      · by_cases a4 : 9999 < fi
        · rw [if_neg a1, if_neg a2, if_neg a3, if_pos a4, bzf (by omega), B254_25, B254_26, g01]
        · rw [if_neg a1, if_neg a2, if_neg a3, if_neg a4, bzt (by omega), B254_26, g11]
theorem C255 {W : Wd} {mi ri fi : Int} : Mi 255 [xR 138, xI mi, xI ri, xI fi] 4 W (W.worth mi ri fi) := by
  intro g h C O d Q hQ
  have K := C.1
  have M := C.2.2.cur
  unfold Wd.worth at hQ
  have no : ¬ ((0 ≤ mi ∧ mi ≤ 99) ∧ (0 ≤ ri ∧ ri ≤ 16) ∧ 0 ≤ fi ∧ fi ≤ 9999) → Rn (d + 3) 255 29 [xR 138, xI mi, xI ri, xI fi] [] g h Q := by
    intro z
    rw [if_neg z] at hQ
    rw [B255_29, ga K.k0]
    simp only [S160 (k := K.k0), S161 (k := K.k0), S162 (k := K.k0), o1, o0, List.cons_append, List.nil_append, B255_34]
    exact mst C hQ
  rw [E255, S254]
  by_cases h1 : (0 ≤ mi ∧ mi ≤ 99) ∧ 0 ≤ fi ∧ fi ≤ 9999
  · rw [bzt h1, o1, List.cons_append, List.nil_append, B255_5, if_neg (by decide), S219]
    by_cases h2 : 0 ≤ ri ∧ ri ≤ 16
    · rw [if_pos ⟨h1.1, h2, h1.2⟩] at hQ
      rw [bzt h2, o1, List.cons_append, List.nil_append, B255_12, if_neg (by decide), ga K.k0]
      refine S253 K M O h1.1 h2 h1.2 (fun h2 f2 t2 => ?_)
      rw [o1, List.cons_append, List.nil_append, B255_23, ga K.k0]
      simp only [S160 (k := K.k0), S161 (k := K.k0), S162 (k := K.k0), o1, o0, List.cons_append, List.nil_append, B255_26, B255_34]
      exact hQ _ (C.st (fun c c0 c1 c2 => by rw [hset_a _ _ _ (by omega), f2 c (by omega) (by omega)]) (fun j hj => by rw [hset_i _ _ hj.1, t2 j (by omega)]) (hset_e _ _ _ _)) (fun c hc => by rw [hset_a _ _ _ (by omega), f2 c (by omega) (by omega)])
    · rw [bzf h2, o1, List.cons_append, List.nil_append, B255_12, if_pos rfl]
      exact no (fun z => h2 z.2.1)
  · rw [bzf h1, o1, List.cons_append, List.nil_append, B255_5, if_pos rfl]
    exact no (fun z => h1 ⟨z.1, z.2.2⟩)
/-- the least risk from k on, in n tries, that deters -/
def St.det (A : St) (mi fi : Int) : Nat → Int → Int × Int
  | 0, _ => (6, -1)
  | n + 1, k => if A.wrt mi (k * fi) 4 = 0 then (0, k) else A.det mi fi n (k + 1)
def Wd.deters (W : Wd) (mi fi : Int) : Int × Int := if (0 ≤ mi ∧ mi ≤ 99) ∧ 0 ≤ fi ∧ fi ≤ 9999 then W.cur.det mi fi 17 0 else (1, -1)
theorem C126 {W : Wd} {mi fi : Int} : Ci 126 [xR 0, xI mi, xI fi] 4 W (W.deters mi fi) := by
  intro g h C d Q hQ
  have C0 := C
  obtain ⟨l, r, l2, r2, C1, C2, C3, C4, C5, C6, C7⟩ := C
  unfold Wd.deters at hQ
  have no : ¬ ((0 ≤ mi ∧ mi ≤ 99) ∧ 0 ≤ fi ∧ fi ≤ 9999) → Rn (d + 3) 126 24 [xR 0, xI mi, xI fi, xU] [] g h Q := by
    intro z
    rw [if_neg z] at hQ
    rw [B126_24, ga C3.k0]
    simp only [S133 (k := C3.k0), S134 (k := C3.k0), S135 (k := C3.k0), S136 (k := C3.k0), o1, o0, List.cons_append, List.nil_append, B126_29]
    exact cst C0 hQ
  rw [E126, S146]
  by_cases h1 : 0 ≤ mi ∧ mi ≤ 99
  · rw [bzt h1, o1, List.cons_append, List.nil_append, B126_9, if_neg (by decide), S146]
    by_cases h3 : 0 ≤ fi ∧ fi ≤ 9999
    · rw [if_pos ⟨h1, h3⟩] at hQ
      have hl : l = 7 ∨ l = 39 := by have := C7.l; omega
      have hr : r = 20 ∨ r = 52 := by have := C7.r; omega
      rw [bzt h3, o1, List.cons_append, List.nil_append, B126_21, if_pos (by decide)]
      have loop : ∀ n k : Nat, k + n = 17 → W.cur.det mi fi n k = W.cur.det mi fi 17 0 → ∀ h2 : KH, (∀ c, c ≠ 33 → h2 c = h c) → Rn (d + 3) 126 32 [xR 0, xI mi, xI fi, xI (k : Int)] [] g h2 Q := by
        intro n
        induction n with
        | zero =>
          intro k hk hd h2 f2
          rw [← hd] at hQ
          rw [B126_32, if_pos (by omega), ga C3.k0]
          simp only [S133 (k := C3.k0), S134 (k := C3.k0), S135 (k := C3.k0), S136 (k := C3.k0), o1, o0, List.cons_append, List.nil_append, B126_70]
          exact hQ _ (C0.st (fun c c0 c1 hq => by unfold qc at hq; rw [hset_a _ _ _ (by omega), f2 c (by omega)]) (fun j hj => by rw [hset_i _ _ hj, f2 0 (by decide)]) (by rw [hset_a _ _ _ (by decide), f2 35 (by decide)]) (hset_e _ _ _ _)) (fun c hc => by rw [hset_a _ _ _ (by omega), f2 c (by omega)])
        | succ n ih =>
          intro k hk hd h2 f2
          have e1 : ((k : Int) + 1) = ((k + 1 : Nat) : Int) := by omega
          have S2 : SR g h2 6 l r W.cur := C7.S.now hl hr (fun c _ _ _ => f2 c (by omega))
          have C11 : CK g h2 := C1.keepg (f2 1 (by decide)) (by rw [f2 2 (by decide)]) (by rw [f2 4 (by decide)]) (by rw [f2 5 (by decide)]) (f2 31 (by decide)) (f2 32 (by decide)) (f2 36 (by decide)) (fun t t0 t1 => by rw [f2 _ (by omega)])
          have hlo0 : 0 ≤ (k : Int) * fi := Int.mul_nonneg (by omega) h3.1
          have hlo1 : (k : Int) * fi ≤ 159984 := by
            have := Int.mul_le_mul (show (k : Int) ≤ 16 by omega) h3.2 h3.1 (by decide : (0 : Int) ≤ 16)
            omega
          rw [B126_32, if_neg (by omega), f2 0 (by decide), ga C3.k0, C3.p6, ga C1.k32, w32_id (by omega) (by omega)]
          refine S6 C11 S2 hl hr C7.O h1 (fun h4 f4 => ?_)
          rw [o1, List.cons_append, List.nil_append, B126_49]
          rw [St.det] at hd
          by_cases hz : W.cur.wrt mi ((k : Int) * fi) 4 = 0
          · rw [if_pos hz] at hd
            rw [← hd] at hQ
            rw [if_neg (by simp [hz]), ga C3.k0]
            simp only [S133 (k := C3.k0), S134 (k := C3.k0), S135 (k := C3.k0), S136 (k := C3.k0), o1, o0, List.cons_append, List.nil_append, B126_57]
            exact hQ _ (C0.st (fun c c0 c1 hq => by unfold qc at hq; rw [hset_a _ _ _ (by omega), f4 c (by omega), f2 c (by omega)]) (fun j hj => by rw [hset_i _ _ hj, f4 0 (by decide), f2 0 (by decide)]) (by rw [hset_a _ _ _ (by decide), f4 35 (by decide), f2 35 (by decide)]) (hset_e _ _ _ _)) (fun c hc => by rw [hset_a _ _ _ (by omega), f4 c (by omega), f2 c (by omega)])
          · rw [if_neg hz, e1] at hd
            rw [if_pos hz, w32_id (by omega) (by omega), e1]
            exact ih (k + 1) (by omega) hd h4 (fun c hc => by rw [f4 c hc, f2 c hc])
      exact loop 17 0 (by omega) rfl h (fun _ _ => rfl)
    · rw [bzf h3, o1, List.cons_append, List.nil_append, B126_21, if_neg (by decide)]
      exact no (fun z => h3 z.2)
  · rw [bzf h1, o1, List.cons_append, List.nil_append, B126_9, if_pos rfl]
    exact no (fun z => h1 z.1)
theorem C256 {W : Wd} {mi fi : Int} : Mi 256 [xR 138, xI mi, xI fi] 4 W (W.deters mi fi) := by
  intro g h C O d Q hQ
  have K := C.1
  have M := C.2.2.cur
  unfold Wd.deters at hQ
  rw [E256, S254]
  by_cases h1 : (0 ≤ mi ∧ mi ≤ 99) ∧ 0 ≤ fi ∧ fi ≤ 9999
  · rw [if_pos h1] at hQ
    rw [bzt h1, o1, List.cons_append, List.nil_append, B256_5, if_pos (by decide)]
    have loop : ∀ n k : Nat, k + n = 17 → W.cur.det mi fi n k = W.cur.det mi fi 17 0 → ∀ h2 : KH, (∀ c, c ≠ 138 → c ≠ 147 → h2 c = h c) → (∀ j, j ≠ 30 → h2 138 j = h 138 j) → Rn (d + 3) 256 16 [xR 138, xI mi, xI fi, xI (k : Int)] [] g h2 Q := by
      intro n
      induction n with
      | zero =>
        intro k hk hd h2 f2 t2
        rw [← hd] at hQ
        rw [B256_16, if_pos (by omega), ga K.k0]
        simp only [S160 (k := K.k0), S161 (k := K.k0), S162 (k := K.k0), o1, o0, List.cons_append, List.nil_append, B256_50]
        exact hQ _ (C.st (fun c c0 c1 c2 => by rw [hset_a _ _ _ (by omega), f2 c (by omega) (by omega)]) (fun j hj => by rw [hset_i _ _ hj.1, t2 j (by omega)]) (hset_e _ _ _ _)) (fun c hc => by rw [hset_a _ _ _ (by omega), f2 c (by omega) (by omega)])
      | succ n ih =>
        intro k hk hd h2 f2 t2
        have e1 : ((k : Int) + 1) = ((k + 1 : Nat) : Int) := by omega
        have K2 : MK g h2 := K.keep (fun j hj => t2 j (by omega))
        have M2 : MS (h2 139) W.cur := by rw [f2 139 (by decide) (by decide)]; exact M
        rw [B256_16, if_neg (by omega), ga K.k0]
        refine S253 K2 M2 O h1.1 ⟨by omega, by omega⟩ h1.2 (fun h4 f4 t4 => ?_)
        rw [o1, List.cons_append, List.nil_append, B256_29]
        rw [St.det] at hd
        by_cases hz : W.cur.wrt mi ((k : Int) * fi) 4 = 0
        · rw [if_pos hz] at hd
          rw [← hd] at hQ
          rw [if_neg (by simp [hz]), ga K.k0]
          simp only [S160 (k := K.k0), S161 (k := K.k0), S162 (k := K.k0), o1, o0, List.cons_append, List.nil_append, B256_37]
          exact hQ _ (C.st (fun c c0 c1 c2 => by rw [hset_a _ _ _ (by omega), f4 c (by omega) (by omega), f2 c (by omega) (by omega)]) (fun j hj => by rw [hset_i _ _ hj.1, t4 j (by omega), t2 j (by omega)]) (hset_e _ _ _ _)) (fun c hc => by rw [hset_a _ _ _ (by omega), f4 c (by omega) (by omega), f2 c (by omega) (by omega)])
        · rw [if_neg hz, e1] at hd
          rw [if_pos hz, w32_id (by omega) (by omega), e1]
          exact ih (k + 1) (by omega) hd h4 (fun c hc hc2 => by rw [f4 c hc hc2, f2 c hc hc2]) (fun j hj => by rw [t4 j hj, t2 j hj])
    exact loop 17 0 (by omega) rfl h (fun _ _ _ => rfl) (fun _ _ => rfl)
  · rw [if_neg h1] at hQ
    rw [bzf h1, o1, List.cons_append, List.nil_append, B256_5, if_neg (by decide), ga K.k0]
    simp only [S160 (k := K.k0), S161 (k := K.k0), S162 (k := K.k0), o1, o0, List.cons_append, List.nil_append, B256_13]
    exact mst C hQ
