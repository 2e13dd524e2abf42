/-! checked, on the model's side -/
theorem C257 {W : Wd} {c sh : Int} : Mw 257 [xR 138, xI c, xI sh] 6 W (W.check c sh) := by
  intro g h C O d Q hQ
  have K := C.1
  have M := C.2.2.cur
  unfold Wd.check at hQ
  have h16 := O.ns
  have g2 : gK g 139 = 20 ∧ 0 ≤ (2 : Int) ∧ (2 : Int) < gL g 139 := ⟨K.kat, by decide, by rw [K.lat]; decide⟩
  have no : ¬ ((0 ≤ c ∧ c ≤ 999) ∧ 0 ≤ sh ∧ sh ≤ 16) → Rn (d + 5) 257 18 [xR 138, xI c, xI sh, xU, xU, xU, xU, xU, xU, xU] [] g h Q := by
    intro z
    rw [if_neg z] at hQ
    rw [B257_18, ga K.k0]
    simp only [S160 (k := K.k0), S161 (k := K.k0), S162 (k := K.k0), o1, o0, List.cons_append, List.nil_append, B257_23]
    exact mst C hQ
  rw [E257]
  by_cases c0 : c < 0
  · rw [if_pos c0]; exact no (fun z => by omega)
  by_cases c9 : 999 < c
  · rw [if_neg c0, if_pos c9]; exact no (fun z => by omega)
  rw [if_neg c0, if_neg c9, S219]
  by_cases h2 : 0 ≤ sh ∧ sh ≤ 16
  · rw [if_pos ⟨by omega, h2⟩] at hQ
    have cf := cst_r O
    have vf := val_r O h2
    rw [bzt h2, o1, List.cons_append, List.nil_append, B257_15, if_pos (by decide), ga K.k0, K.pat, ga g2, M.ns]
    obtain ⟨n, hn⟩ : ∃ n : Nat, W.cur.ns = n := ⟨W.cur.ns.toNat, by omega⟩
    have hn2 : W.cur.ns.toNat = n := by omega
    rw [hn2] at hQ
    rw [hn]
    have hn16 : n ≤ 16 := by omega
    have P16 := p16 hn16
    -- all sets
    have sets : ∀ m v : Nat, v + m = 2 ^ n → ∀ (h1 : KH) (x y z : KV), (∀ a, (a < 138 ∨ (138 < a ∧ a < 153)) → h1 a = h a) → (∀ j, j ≠ 26 → j ≠ 27 → h1 138 j = h 138 j) → (∀ s : Nat, s < n → h1 153 s = W.cur.cst s ∧ h1 154 s = W.cur.val sh s) → Rn (d + 5) 257 117 [xR 138, xI c, xI sh, xI (n : Int), xI ((bfd W.cur.cst (W.cur.val sh) n c v).1 : Nat), xI (bfd W.cur.cst (W.cur.val sh) n c v).2, xI (v : Int), x, y, z] [] g h1 Q := by
      intro m
      induction m with
      | zero =>
        intro v hv h1 x y z f1 t1 w1
        have hv : v = 2 ^ n := by omega
        rw [B257_117, ga (by omega), shl_1 hn16, if_pos (by omega), ga K.k0, ga K.k0]
        simp only [S160 (k := K.k0), S161 (k := K.k0), S162 (k := K.k0), o1, o0, List.cons_append, List.nil_append, B257_225]
        rw [hv]
        generalize bfd W.cur.cst (W.cur.val sh) n c (2 ^ n) = B at *
        generalize eF : hset (hset h1 138 38 B.2) 138 1 0 = hF
        have kF : ∀ a, (a < 138 ∨ (138 < a ∧ a < 153)) → hF a = h a := fun a ha => by rw [← eF, hset_a _ _ _ (by omega), hset_a _ _ _ (by omega), f1 a ha]
        have jF : ∀ j, j ≠ 1 → j ≠ 38 → j ≠ 26 → j ≠ 27 → hF 138 j = h 138 j := fun j j1 j2 j3 j4 => by rw [← eF, hset_i _ _ j1, hset_i _ _ j2, t1 j j3 j4]
        have v38 : hF 138 38 = B.2 := by rw [← eF, hset_i _ _ (by decide), hset_e]
        obtain ⟨_, X, D⟩ := C
        exact hQ hF ⟨K.keep (fun j hj => jF j (by omega) (by omega) (by omega) (by omega)), ⟨by rw [← eF, hset_e]; rfl, by rw [jF 2 (by decide) (by decide) (by decide) (by decide)]; exact X.top, by rw [jF 3 (by decide) (by decide) (by decide) (by decide)]; exact X.bot, by rw [jF 9 (by decide) (by decide) (by decide) (by decide)]; exact X.fed, by rw [jF 15 (by decide) (by decide) (by decide) (by decide)]; exact X.fk, by rw [jF 16 (by decide) (by decide) (by decide) (by decide)]; exact X.fp, by rw [jF 35 (by decide) (by decide) (by decide) (by decide)]; exact X.hm, v38, by rw [jF 40 (by decide) (by decide) (by decide) (by decide)]; exact X.nmk⟩, ⟨by rw [kF 141 (by decide)]; exact D.tm, by rw [kF 140 (by decide)]; exact D.ts, by rw [kF 142 (by decide)]; exact D.tv, by rw [kF 143 (by decide)]; exact D.tp, by rw [kF 152 (by decide)]; exact D.hd, by rw [kF 139 (by decide)]; exact D.cur, by rw [kF 139 (by decide)]; exact D.mk⟩⟩ (fun a ha => kF a (Or.inl ha))
      | succ m ih =>
        intro v hv h1 x y z f1 t1 w1
        have e1 : ((v : Int) + 1) = ((v + 1 : Nat) : Int) := by omega
        have K1 : MK g h1 := K.keep (fun j hj => t1 j (by omega) (by omega))
        have nx := fun x y z => ih (v + 1) (by omega) h1 x y z f1 t1 w1
        rw [bfd_s] at nx
        rw [B257_117, ga (by omega), shl_1 hn16, if_neg (by omega)]
        generalize bfd W.cur.cst (W.cur.val sh) n c v = B at *
        have inner : ∀ m s : Nat, s + m = n → Rn (d + 5) 257 134 [xR 138, xI c, xI sh, xI (n : Int), xI (B.1 : Nat), xI B.2, xI (v : Int), xI (csm W.cur.cst v s), xI (csm (W.cur.val sh) v s), xI (s : Int)] [] g h1 Q := by
          intro m
          induction m with
          | zero =>
            intro s hs
            have hs : s = n := by omega
            subst hs
            rw [B257_134, if_pos (by omega)]
            by_cases q1 : c < csm W.cur.cst v s
            · simp only [if_neg (show ¬ (csm W.cur.cst v s ≤ c ∧ B.2 < csm (W.cur.val sh) v s) from fun z => by omega)] at nx
              rw [if_pos q1, B257_207, w32_id (by omega) (by omega), e1]
              exact nx _ _ _
            · rw [if_neg q1]
              by_cases q2 : B.2 < csm (W.cur.val sh) v s
              · simp only [if_pos (show csm W.cur.cst v s ≤ c ∧ B.2 < csm (W.cur.val sh) v s from ⟨by omega, q2⟩)] at nx
                rw [if_pos q2, B257_207, w32_id (by omega) (by omega), e1]
                exact nx _ _ _
              · simp only [if_neg (show ¬ (csm W.cur.cst v s ≤ c ∧ B.2 < csm (W.cur.val sh) v s) from fun z => q2 z.2)] at nx
                rw [if_neg q2, B257_207, w32_id (by omega) (by omega), e1]
                exact nx _ _ _
          | succ m im =>
            intro s hs
            have e2 : ((s : Int) + 1) = ((s + 1 : Nat) : Int) := by omega
            have ny := im (s + 1) (by omega)
            rw [csm, csm] at ny
            have r1 := csm_r (f := W.cur.cst) (b := 199) (fun j => by have := cf j; omega) v s
            have r2 := csm_r (f := W.cur.val sh) (b := 4096) vf v s
            have c1 := cf s
            have c2 := vf s
            have ba := bit_at (v := v) (k := s) (by omega)
            have bz2 : and32 (shr32 (v : Int) (s : Int)) 1 = 0 ∨ and32 (shr32 (v : Int) (s : Int)) 1 = 1 := by
              have l : v / 2 ^ s ≤ v := Nat.div_le_self _ _
              have e : shr32 (v : Int) (s : Int) = ((v / 2 ^ s : Nat) : Int) := by
                unfold shr32
                rw [Int.toNat_natCast, show (2 : Int) ^ s = ((2 ^ s : Nat) : Int) by rw [Int.natCast_pow]; rfl]
                rfl
              rw [e, and_n (b := 1) 1 (by omega) (by decide), Nat.and_one_is_mod]
              omega
            rw [B257_134, if_neg (by omega), ga (by omega)]
            by_cases hb : v.testBit s = true
            · rw [if_pos hb, if_pos hb] at ny
              have one : and32 (shr32 (v : Int) (s : Int)) 1 = 1 := by rw [ba]; exact hb
              rw [if_pos (by omega), ga K.k0, K1.p36, ga ⟨K.k153, by omega, by rw [K.l153]; omega⟩, ga K.k0, K1.p37, ga ⟨K.k154, by omega, by rw [K.l154]; omega⟩, (w1 s (by omega)).1, (w1 s (by omega)).2, w32_id (x := csm W.cur.cst v s + W.cur.cst s) (by omega) (by omega), w32_id (x := csm (W.cur.val sh) v s + W.cur.val sh s) (by omega) (by omega), B257_177, w32_id (by omega) (by omega), e2]
              exact ny
            · rw [if_neg hb, if_neg hb, Int.add_zero, Int.add_zero] at ny
              have zero : and32 (shr32 (v : Int) (s : Int)) 1 = 0 := by
                rcases bz2 with z | z
                · exact z
                · rw [ba] at z; exact absurd z hb
              rw [if_neg (by omega), B257_177, w32_id (by omega) (by omega), e2]
              exact ny
        exact inner n 0 (by omega)
    -- costs and values
    have prep : ∀ m s : Nat, s + m = n → ∀ h1 : KH, (∀ a, (a < 138 ∨ (138 < a ∧ a < 153)) → h1 a = h a) → (∀ j, j ≠ 26 → j ≠ 27 → h1 138 j = h 138 j) → (∀ t : Nat, t < s → h1 153 t = W.cur.cst t ∧ h1 154 t = W.cur.val sh t) → Rn (d + 5) 257 34 [xR 138, xI c, xI sh, xI (n : Int), xI (s : Int), xU, xU, xU, xU, xU] [] g h1 Q := by
      intro m
      induction m with
      | zero =>
        intro s hs h1 f1 t1 w1
        have hs : s = n := by omega
        rw [B257_34, if_pos (by omega)]
        exact sets (2 ^ n) 0 (by omega) h1 _ _ _ f1 t1 (fun t ht => w1 t (by omega))
      | succ m ih =>
        intro s hs h1 f1 t1 w1
        have hi : ins W.cur s := ⟨by omega, by omega⟩
        have e1 : ((s : Int) + 1) = ((s + 1 : Nat) : Int) := by omega
        have K1 : MK g h1 := K.keep (fun j hj => t1 j (by omega) (by omega))
        have M1 : MS (h1 139) W.cur := by rw [f1 139 (Or.inr ⟨by decide, by decide⟩)]; exact M
        have dd := O.dr s hi
        have st := O.steps (a := 0) (b := W.cur.dr s) ⟨by decide, by omega⟩ dd
        have ec : W.cur.steps 0 (W.cur.dr s) + 1 = W.cur.cst s := by unfold St.cst; rw [if_pos (by omega)]
        have b1 := O.mside (s := s) (O.pa s hi) h2
        have b2 := O.aside (s := s) (O.pa s hi) h2
        have vs := vf s
        rw [B257_34, if_neg (by omega), ga K.k0, ga K.k0, K1.p36, S205 K1 ⟨by omega, by omega⟩ (by decide), M1.dr s hi, o1, List.cons_append, List.nil_append, B257_55, ga K.k0]
        refine S222 K1 M1 O ⟨by decide, by omega⟩ dd ?_
        rw [o1, List.cons_append, List.nil_append, B257_58, w32_id (by omega) (by omega), ec, ga ⟨K.k153, by decide, by omega, by rw [K.l153]; omega⟩, ga K.k0]
        generalize eA : hset h1 153 s (W.cur.cst s) = hA
        have kA : ∀ a, a ≠ 153 → hA a = h1 a := fun a ha => by rw [← eA, hset_a _ _ _ ha]
        have KA : MK g hA := K1.keep (fun j _ => by rw [kA 138 (by decide)])
        have MA : MS (hA 139) W.cur := by rw [kA 139 (by decide)]; exact M1
        refine S218 KA MA O hi h2 ?_
        generalize eB : hset (hset hA 138 26 (W.cur.mside s (W.cur.pa s) sh)) 138 27 (W.cur.mside s (W.cur.pa s) sh + W.cur.aside s (W.cur.pa s) sh) = hB
        have kB : ∀ a, a ≠ 138 → hB a = hA a := fun a ha => by rw [← eB, hset_a _ _ _ ha, hset_a _ _ _ ha]
        have jB : ∀ j, j ≠ 26 → j ≠ 27 → hB 138 j = h 138 j := fun j j1 j2 => by rw [← eB, hset_i _ _ j2, hset_i _ _ j1, kA 138 (by decide), t1 j j1 j2]
        have v26 : hB 138 26 = W.cur.mside s (W.cur.pa s) sh := by rw [← eB, hset_i _ _ (by decide), hset_e]
        have v27 : hB 138 27 = W.cur.mside s (W.cur.pa s) sh + W.cur.aside s (W.cur.pa s) sh := by rw [← eB, hset_e]
        have KB : MK g hB := K.keep (fun j hj => jB j (by omega) (by omega))
        have ev : W.cur.val sh s = if W.cur.mside s (W.cur.pa s) sh + W.cur.aside s (W.cur.pa s) sh = 0 then 0 else W.cur.mside s (W.cur.pa s) sh * 4096 / (W.cur.mside s (W.cur.pa s) sh + W.cur.aside s (W.cur.pa s) sh) := by unfold St.val; rw [if_pos (by omega)]
        have fin : ∀ v : Int, v = W.cur.val sh s → Rn (d + 5) 257 101 [xR 138, xI c, xI sh, xI (n : Int), xI (s : Int), xU, xU, xU, xU, xU] [xI v, xI (s : Int), xR 154] g hB Q := by
          intro v hv
          rw [B257_101, ga ⟨K.k154, by decide, by omega, by rw [K.l154]; omega⟩, w32_id (by omega) (by omega), e1, hv]
          refine ih (s + 1) (by omega) _ (fun a ha => by rw [hset_a _ _ _ (by omega), kB a (by omega), kA a (by omega), f1 a ha]) (fun j j1 j2 => by rw [hset_a _ _ _ (by decide), jB j j1 j2]) (fun t ht => ?_)
          by_cases e : t = s
          · subst e
            exact ⟨by rw [hset_a _ _ _ (by decide), kB 153 (by decide), ← eA, hset_e], hset_e _ _ _ _⟩
          · have z := w1 t (by omega)
            exact ⟨by rw [hset_a _ _ _ (by decide), kB 153 (by decide), ← eA, hset_i _ _ (by omega)]; exact z.1, by rw [hset_i _ _ (by omega), kB 154 (by decide), kA 154 (by decide)]; exact z.2⟩
        rw [o0, List.nil_append, B257_68, ga K.k0, ga K.k0, KB.p37, v26, v27]
        simp only [c64eq, ne_eq]
        generalize W.cur.mside s (W.cur.pa s) sh = a at *
        generalize W.cur.aside s (W.cur.pa s) sh = b at *
        by_cases hz : a + b = 0
        · rw [if_pos hz] at ev
          rw [if_neg (fun z => z hz)]
          exact fin 0 ev.symm
        · rw [if_neg hz] at ev
          rw [if_pos hz, ga K.k0, ga K.k0, ga hz]
          have ed : Int.tdiv (w64 (4096 * a)) (a + b) = W.cur.val sh s := by
            rw [w64_id (by omega) (by omega), Int.tdiv_eq_ediv_of_nonneg (by omega), Int.mul_comm, ev]
          rw [ed, w64_id (by omega) (by omega), w32_id (by omega) (by omega)]
          exact fin _ rfl
    exact prep n 0 (by omega) h (fun _ _ => rfl) (fun _ _ _ => rfl) (fun t ht => by omega)
  · rw [bzf h2, o1, List.cons_append, List.nil_append, B257_15, if_neg (fun z => z rfl)]
    exact no (fun z => h2 z.2)
