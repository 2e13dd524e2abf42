/-! checked, on the class's side -/
theorem kn_r {f w : Nat → Int} (hf : ∀ j, 0 ≤ f j) (hw : ∀ j, 0 ≤ w j ∧ w j ≤ 4096) {n : Nat} (hn : n ≤ 16) {c : Int} (hc : 0 ≤ c) : 0 ≤ (kn f w n c).1 ∧ (kn f w n c).1 ≤ 65536 := by
  obtain ⟨b, e, B⟩ := kn_best (f := f) (w := w) hf n hn c hc
  have r := csm_r (b := 4096) hw b n
  rw [B.su] at r
  omega
theorem val_p {A : St} (O : A.Ok) {sh : Int} (hs : 0 ≤ sh ∧ sh ≤ 16) {i : Nat} (hi : i < A.ns.toNat) : (if w32 (pmade (A.mside i (A.pa i) sh) (A.aside i (A.pa i) sh) 4096) < 0 then 0 else w32 (pmade (A.mside i (A.pa i) sh) (A.aside i (A.pa i) sh) 4096)) = A.val sh i := by
  have hi2 : ins A i := ⟨by omega, by omega⟩
  have b1 := O.mside (s := i) (O.pa i hi2) hs
  have b2 := O.aside (s := i) (O.pa i hi2) hs
  have v := val_r O hs i
  unfold St.val at v ⊢
  rw [if_pos hi] at v ⊢
  unfold pmade
  generalize A.mside i (A.pa i) sh = a at *
  generalize A.aside i (A.pa i) sh = b at *
  by_cases hz : a + b = 0
  · rw [if_pos hz] at v ⊢; rw [if_pos (show a + b ≤ 0 by omega)]; decide
  · rw [if_neg hz] at v
    rw [if_neg hz, if_neg (show ¬ a + b ≤ 0 by omega), w32_id (by omega) (by omega), if_neg (by omega)]
theorem S1 {g : KG} {h : KH} {l r : Int} {A : St} (C1 : CK g h) (S : SR g h 6 l r A) (hl : l = 7 ∨ l = 39) (hr : r = 20 ∨ r = 52) (O : A.Ok) {c sh : Int} (hc : 0 ≤ c ∧ c ≤ 999) (hsh : 0 ≤ sh ∧ sh ≤ 16) {d : Nat} {Q : Option KV → KG → KH → Prop} (hQ : ∀ h2 : KH, (∀ a, a ≠ 37 → a ≠ 38 → h2 a = h a) → (∀ j, 0 ≤ j → j ≤ c → h2 37 j = (kn A.cst (A.val sh) A.ns.toNat j).1 ∧ h2 38 j = (kn A.cst (A.val sh) A.ns.toNat j).2) → Q none g h2) : Cl (d + 5) 1 [xR 36, xI c, xI sh] g h Q := by
  have h16 := O.ns
  have g37 : ∀ j, 0 ≤ j → j ≤ c → gK g 37 = 20 ∧ 0 ≤ j ∧ j < gL g 37 := fun j j0 j1 => ⟨C1.k37, j0, by rw [C1.l37]; omega⟩
  have g38 : ∀ j, 0 ≤ j → j ≤ c → gK g 38 = 20 ∧ 0 ≤ j ∧ j < gL g 38 := fun j j0 j1 => ⟨C1.k38, j0, by rw [C1.l38]; omega⟩
  have p37 : ∀ j, 0 ≤ j → j ≤ c → gK g 37 = 20 ∧ (0 : Int) ≤ 37 ∧ 0 ≤ j ∧ j < gL g 37 := fun j j0 j1 => ⟨C1.k37, by decide, j0, by rw [C1.l37]; omega⟩
  have p38 : ∀ j, 0 ≤ j → j ≤ c → gK g 38 = 20 ∧ (0 : Int) ≤ 38 ∧ 0 ≤ j ∧ j < gL g 38 := fun j j0 j1 => ⟨C1.k38, by decide, j0, by rw [C1.l38]; omega⟩
  have lp : ∀ n i : Nat, i + n = A.ns.toNat → ∀ (h1 : KH) (x4 x6 x8 x9 x10 : KV), (∀ a, a ≠ 37 → a ≠ 38 → h1 a = h a) → (∀ j, 0 ≤ j → j ≤ c → h1 37 j = (kn A.cst (A.val sh) i j).1 ∧ h1 38 j = (kn A.cst (A.val sh) i j).2) → Rn (d + 4) 1 29 [xR 36, xI c, xI sh, xI (i : Int), x4, xU, x6, xU, x8, x9, x10] [] g h1 Q := by
    intro n
    induction n with
    | zero =>
      intro i hi h1 x4 x6 x8 x9 x10 f1 v1
      have hi : i = A.ns.toNat := by omega
      rw [B1_29, ga C1.k36, f1 36 (by decide) (by decide), C1.p360, ga S.k0, f1 6 (by decide) (by decide), S.ns, if_pos (by omega)]
      rw [hi] at v1
      exact hQ h1 f1 v1
    | succ n ih =>
      intro i hi h1 x4 x6 x8 x9 x10 f1 v1
      have hil : i < A.ns.toNat := by omega
      have hii : ins A i := ⟨by omega, by omega⟩
      have e1 : ((i : Int) + 1) = ((i + 1 : Nat) : Int) := by omega
      have S1 : SR g h1 6 l r A := S.now hl hr (fun a _ _ _ => f1 a (by omega) (by omega))
      have b1 := O.mside (s := i) (O.pa i hii) hsh
      have b2 := O.aside (s := i) (O.pa i hii) hsh
      have y36 : h1 36 = h 36 := f1 36 (by decide) (by decide)
      have dd := O.dr i hii
      have st := O.steps (a := 0) (b := A.dr i) ⟨by decide, by omega⟩ dd
      have ec : A.steps 0 (A.dr i) + 1 = A.cst i := by unfold St.cst; rw [if_pos hil]
      have cr := cst_r O i
      have cf : ∀ j, 0 ≤ A.cst j := fun j => by have := cst_r O j; omega
      have vr := val_r O hsh
      have vi := vr i
      rw [B1_29, ga C1.k36, y36, C1.p360, ga S.k0, S1.ns, if_neg (by omega), ga C1.k36, ga C1.k36, ga S.k0, S1.n7, ga ⟨S.m27, by omega, by rw [S.w27]; omega⟩, S1.v27 i hii, ga S.k0]
      refine S56 S1 O hii (O.pa i hii) hsh ?_
      rw [o1, List.cons_append, List.nil_append, B1_58, ga C1.k36, ga C1.k36, y36, C1.p360, ga S.k0, S1.n7, ga ⟨S.m27, by omega, by rw [S.w27]; omega⟩, S1.v27 i hii, ga S.k0]
      refine S57 S1 O hii (O.pa i hii) hsh ?_
      rw [o1, List.cons_append, List.nil_append, B1_78]
      refine S148 ⟨b1.2.2.1, b1.2.2.2⟩ ⟨b2.2.2.1, b2.2.2.2⟩ (by decide) ?_
      rw [o1, List.cons_append, List.nil_append, B1_90, val_p O hsh hil, ga C1.k36, y36, C1.p360, ga S.k0, ga C1.k36, ga S.k0, S1.n4, ga ⟨S.m24, by omega, by rw [S.w24]; omega⟩, S1.v24 i hii, S1.pl, ga S.L.k0]
      refine S23 S1.L O ⟨by decide, by omega⟩ dd ?_
      rw [o1, List.cons_append, List.nil_append, B1_117, w32_id (by omega) (by omega), ec]
      generalize A.mside i (A.pa i) sh = ma
      generalize A.aside i (A.pa i) sh = mb
      have inner : ∀ m : Nat, ∀ k : Int, k ≤ c → k - A.cst i + 1 ≤ m → ∀ h3 : KH, (∀ a, a ≠ 37 → a ≠ 38 → h3 a = h a) → (∀ j, k < j → j ≤ c → 0 ≤ j → h3 37 j = (kn A.cst (A.val sh) (i + 1) j).1 ∧ h3 38 j = (kn A.cst (A.val sh) (i + 1) j).2) → (∀ j, 0 ≤ j → j ≤ k → h3 37 j = (kn A.cst (A.val sh) i j).1 ∧ h3 38 j = (kn A.cst (A.val sh) i j).2) → (A.cst i - 1 ≤ k ∨ c < A.cst i) → Rn (d + 4) 1 124 [xR 36, xI c, xI sh, xI (i : Int), xL ma, xU, xL mb, xU, xI (A.val sh i), xI (A.cst i), xI k] [] g h3 Q := by
        intro m
        have done : ∀ k : Int, k ≤ c → k < A.cst i → ∀ h3 : KH, (∀ a, a ≠ 37 → a ≠ 38 → h3 a = h a) → (∀ j, k < j → j ≤ c → 0 ≤ j → h3 37 j = (kn A.cst (A.val sh) (i + 1) j).1 ∧ h3 38 j = (kn A.cst (A.val sh) (i + 1) j).2) → (∀ j, 0 ≤ j → j ≤ k → h3 37 j = (kn A.cst (A.val sh) i j).1 ∧ h3 38 j = (kn A.cst (A.val sh) i j).2) → Rn (d + 4) 1 124 [xR 36, xI c, xI sh, xI (i : Int), xL ma, xU, xL mb, xU, xI (A.val sh i), xI (A.cst i), xI k] [] g h3 Q := by
          intro k hk hk2 h3 f3 hi3 lo3
          rw [B1_124, if_pos (by omega), w32_id (by omega) (by omega), e1]
          refine ih (i + 1) (by omega) h3 _ _ _ _ _ f3 (fun j j0 j1 => ?_)
          by_cases hj : k < j
          · exact hi3 j hj j1 j0
          · have z := lo3 j j0 (by omega)
            rw [kn_s, if_neg (fun y => by omega)]
            exact z
        induction m with
        | zero =>
          intro k hk hm h3 f3 hi3 lo3 hb
          exact done k hk (by omega) h3 f3 hi3 lo3
        | succ m im =>
          intro k hk hm h3 f3 hi3 lo3 hb
          by_cases hk2 : k < A.cst i
          · exact done k hk hk2 h3 f3 hi3 lo3
          · have y36' : h3 36 = h 36 := f3 36 (by decide) (by decide)
            have a1 := lo3 (k - A.cst i) (by omega) (by omega)
            have a2 := lo3 k (by omega) (by omega)
            have r1 := kn_r cf vr (n := i) (by omega) (c := k - A.cst i) (by omega)
            have e2 : k + -1 = k - 1 := by omega
            have ks := kn_s A.cst (A.val sh) i k
            rw [B1_124, if_neg hk2, ga C1.k36, y36', C1.p361, w32_id (x := k - A.cst i) (by omega) (by omega), ga (g37 _ (by omega) (by omega)), ga C1.k36, ga (g37 _ (by omega) (by omega)), a1.1, a2.1, w32_id (x := (kn A.cst (A.val sh) i (k - A.cst i)).1 + A.val sh i) (by omega) (by omega)]
            by_cases hb2 : (kn A.cst (A.val sh) i k).1 < (kn A.cst (A.val sh) i (k - A.cst i)).1 + A.val sh i
            · rw [if_pos ⟨by omega, hb2⟩] at ks
              have z36 : ∀ v, (hset h3 37 k v) 36 = h 36 := fun v => by rw [hset_a _ _ _ (by decide), y36']
              have z38 : ∀ v, (hset h3 37 k v) 38 = h3 38 := fun v => hset_a _ _ _ (by decide)
              rw [if_neg (by omega), ga C1.k36, ga C1.k36, ga (g37 _ (by omega) (by omega)), ga (p37 _ (by omega) (by omega)), ga C1.k36, ga C1.k36, z36, C1.p362, ga (g38 _ (by omega) (by omega)), ga (by omega), ga (p38 _ (by omega) (by omega)), z38, a1.2, B1_195, w32_id (by omega) (by omega), e2]
              refine im (k - 1) (by omega) (by omega) _ (fun a a37 a38 => by rw [hset_a _ _ _ a38, hset_a _ _ _ a37, f3 a a37 a38]) (fun j j0 j1 j2 => ?_) (fun j j0 j1 => ?_) (by omega)
              · by_cases e : j = k
                · rw [e, ks]
                  exact ⟨by rw [hset_a _ _ _ (by decide), hset_e], hset_e _ _ _ _⟩
                · have z := hi3 j (by omega) j1 j2
                  exact ⟨by rw [hset_a _ _ _ (by decide), hset_i _ _ e]; exact z.1, by rw [hset_i _ _ e, z38]; exact z.2⟩
              · have z := lo3 j j0 (by omega)
                exact ⟨by rw [hset_a _ _ _ (by decide), hset_i _ _ (by omega)]; exact z.1, by rw [hset_i _ _ (by omega), z38]; exact z.2⟩
            · rw [if_neg (fun z => hb2 z.2)] at ks
              rw [if_pos (by omega), B1_195, w32_id (by omega) (by omega), e2]
              refine im (k - 1) (by omega) (by omega) h3 f3 (fun j j0 j1 j2 => ?_) (fun j j0 j1 => lo3 j j0 (by omega)) (by omega)
              by_cases e : j = k
              · rw [e, ks]; exact a2
              · exact hi3 j (by omega) j1 j2
      exact inner (c - A.cst i + 1).toNat c (Int.le_refl _) (by omega) h1 f1 (fun j j0 j1 => by omega) (fun j j0 j1 => v1 j j0 j1) (by omega)
  have cl : ∀ n k : Nat, (k : Int) + n = c + 1 → ∀ h1 : KH, (∀ a, a ≠ 37 → a ≠ 38 → h1 a = h a) → (∀ j, 0 ≤ j → j < (k : Int) → h1 37 j = 0 ∧ h1 38 j = 0) → Rn (d + 4) 1 2 [xR 36, xI c, xI sh, xI (k : Int), xU, xU, xU, xU, xU, xU, xU] [] g h1 Q := by
    intro n
    induction n with
    | zero =>
      intro k hk h1 f1 v1
      rw [B1_2, if_pos (by omega)]
      exact lp A.ns.toNat 0 (by omega) h1 _ _ _ _ _ f1 (fun j j0 j1 => v1 j j0 (by omega))
    | succ n ih =>
      intro k hk h1 f1 v1
      have e1 : ((k : Int) + 1) = ((k + 1 : Nat) : Int) := by omega
      have y36 : h1 36 = h 36 := f1 36 (by decide) (by decide)
      rw [B1_2, if_neg (by omega), ga C1.k36, y36, C1.p361, ga (p37 _ (by omega) (by omega)), ga C1.k36, hset_a _ _ _ (show (36 : Int) ≠ 37 by decide), y36, C1.p362, ga (p38 _ (by omega) (by omega)), w32_id (by omega) (by omega), e1]
      refine ih (k + 1) (by omega) _ (fun a a37 a38 => by rw [hset_a _ _ _ a38, hset_a _ _ _ a37, f1 a a37 a38]) (fun j j0 j1 => ?_)
      by_cases e : j = k
      · rw [e]
        exact ⟨by rw [hset_a _ _ _ (by decide), hset_e], hset_e _ _ _ _⟩
      · have z := v1 j j0 (by omega)
        exact ⟨by rw [hset_a _ _ _ (by decide), hset_i _ _ e]; exact z.1, by rw [hset_i _ _ e, hset_a _ _ _ (by decide)]; exact z.2⟩
  rw [E1]
  exact cl (c + 1).toNat 0 (by omega) h (fun _ _ _ => rfl) (fun j j0 j1 => by omega)
theorem C127 {W : Wd} {c sh : Int} : Cw 127 [xR 0, xI c, xI sh] 6 W (W.check c sh) := by
  intro g h C d Q hQ
  have C0 := C
  obtain ⟨l, r, l2, r2, C1, C2, C3, C4, C5, C6, C7⟩ := C
  unfold Wd.check at hQ
  have O := C7.O
  have S := C7.S
  have h16 := O.ns
  have no : ¬ ((0 ≤ c ∧ c ≤ 999) ∧ 0 ≤ sh ∧ sh ≤ 16) → Rn (d + 5) 127 24 [xR 0, xI c, xI sh] [] g h Q := by
    intro z
    rw [if_neg z] at hQ
    rw [B127_24, ga C3.k0]
    simp only [S133 (k := C3.k0), S134 (k := C3.k0), S135 (k := C3.k0), S136 (k := C3.k0), o1, o0, List.cons_append, List.nil_append, B127_29]
    exact cst C0 hQ
  rw [E127, S146]
  by_cases h1 : 0 ≤ c ∧ c ≤ 999
  · rw [bzt h1, o1, List.cons_append, List.nil_append, B127_9, if_neg (by decide), S146]
    by_cases h2 : 0 ≤ sh ∧ sh ≤ 16
    · rw [if_pos ⟨h1, h2⟩] at hQ
      have hl : l = 7 ∨ l = 39 := by have := C7.l; omega
      have hr : r = 20 ∨ r = 52 := by have := C7.r; omega
      rw [bzt h2, o1, List.cons_append, List.nil_append, B127_21, if_pos (by decide), ga C3.k0, C3.p8, ga C1.k36]
      refine S1 C1 S hl hr O h1 h2 (fun h2 f2 v2 => ?_)
      obtain ⟨b, eb, B⟩ := kn_best (f := W.cur.cst) (w := W.cur.val sh) (fun j => by have := cst_r O j; omega) W.cur.ns.toNat (by omega) c h1.1
      obtain ⟨u1, u2⟩ := B.uniq (bfd_best W.cur.cst (W.cur.val sh) W.cur.ns.toNat h1.1)
      obtain ⟨w1, w2⟩ := v2 c h1.1 (Int.le_refl _)
      rw [← u1, ← u2] at hQ
      have y0 : h2 0 = h 0 := f2 0 (by decide) (by decide)
      have y36 : h2 36 = h 36 := f2 36 (by decide) (by decide)
      have z36 : ∀ v, (hset h2 0 18 v) 36 = h 36 := fun v => by rw [hset_a _ _ _ (by decide), y36]
      have z38 : ∀ v, (hset h2 0 18 v) 38 = h2 38 := fun v => hset_a _ _ _ (by decide)
      rw [o0, List.nil_append, B127_39, ga C3.k0, y0, C3.p8, ga C1.k36, y36, C1.p361, ga ⟨C1.k37, h1.1, by rw [C1.l37]; omega⟩, w1, ga C3.k0, ga C3.k0, hset_i _ _ (by decide), y0, C3.p8, ga C1.k36, z36, C1.p362, ga ⟨C1.k38, h1.1, by rw [C1.l38]; omega⟩, ga C3.k0, z38, w2, eb]
      simp only [S133 (k := C3.k0), S134 (k := C3.k0), S135 (k := C3.k0), S136 (k := C3.k0), o1, o0, List.cons_append, List.nil_append, B127_65]
      generalize (kn W.cur.cst (W.cur.val sh) W.cur.ns.toNat c).1 = m at *
      generalize eF : hset (hset h2 0 18 m) 0 11 0 = hF
      have kF : ∀ a, a ≠ 0 → a ≠ 37 → a ≠ 38 → hF a = h a := fun a a0 a1 a2 => by rw [← eF, hset_a _ _ _ a0, hset_a _ _ _ a0, f2 a a1 a2]
      have jF : ∀ j, j ≠ 11 → j ≠ 18 → hF 0 j = h 0 j := fun j j1 j2 => by rw [← eF, hset_i _ _ j1, hset_i _ _ j2, y0]
      have v18 : hF 0 18 = m := by rw [← eF, hset_i _ _ (by decide), hset_e]
      refine hQ hF ⟨l, r, l2, r2, C1.keepg (kF 1 (by decide) (by decide) (by decide)) (by rw [kF 2 (by decide) (by decide) (by decide)]) (by rw [kF 4 (by decide) (by decide) (by decide)]) (by rw [kF 5 (by decide) (by decide) (by decide)]) (kF 31 (by decide) (by decide) (by decide)) (kF 32 (by decide) (by decide) (by decide)) (kF 36 (by decide) (by decide) (by decide)) (fun t t0 t1 => by rw [kF _ (by omega) (by omega) (by omega)]), ⟨C2.k35, by rw [kF 35 (by decide) (by decide) (by decide)]; exact C2.p35⟩, ?_, C4.keep (fun a _ _ => kF a (by omega) (by omega) (by omega)), ⟨by rw [kF 2 (by decide) (by decide) (by decide)]; exact C5.fed, C5.f7, by rw [kF 3 (by decide) (by decide) (by decide)]; exact C5.tp, by rw [jF 15 (by decide) (by decide), kF 2 (by decide) (by decide) (by decide)]; exact C5.fa, C5.tb⟩, C6.keep (fun a _ _ => kF a (by omega) (by omega) (by omega)), C7.keep (fun a _ _ _ => kF a (by omega) (by omega) (by omega))⟩ (fun a ha => kF a (by omega) (by omega) (by omega))
      exact ⟨C3.k0, by rw [jF 0 (by decide) (by decide)]; exact C3.p0, by rw [jF 1 (by decide) (by decide)]; exact C3.p1, by rw [jF 2 (by decide) (by decide)]; exact C3.p2, by rw [jF 3 (by decide) (by decide)]; exact C3.p3, by rw [jF 4 (by decide) (by decide)]; exact C3.p4, by rw [jF 5 (by decide) (by decide)]; exact C3.p5, by rw [jF 6 (by decide) (by decide)]; exact C3.p6, by rw [jF 7 (by decide) (by decide)]; exact C3.p7, by rw [jF 8 (by decide) (by decide)]; exact C3.p8, by rw [jF 9 (by decide) (by decide)]; exact C3.p9, by rw [jF 10 (by decide) (by decide)]; exact C3.p10, by rw [← eF, hset_e]; rfl, by rw [jF 12 (by decide) (by decide)]; exact C3.top, by rw [jF 13 (by decide) (by decide)]; exact C3.bot, by rw [jF 14 (by decide) (by decide)]; exact C3.nmk, C3.nm3, by rw [jF 17 (by decide) (by decide)]; exact C3.hm, by rw [jF 16 (by decide) (by decide)]; exact C3.hd, v18⟩
    · rw [bzf h2, o1, List.cons_append, List.nil_append, B127_21, if_neg (fun z => z rfl)]
      exact no (fun z => h2 z.2)
  · rw [bzf h1, o1, List.cons_append, List.nil_append, B127_9, if_pos rfl]
    exact no (fun z => h1 z.1)
