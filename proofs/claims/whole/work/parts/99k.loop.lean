/-! THE LAW'S LOOP (printed by wip/tools/mk99j.py) -/
theorem law_loop {g : KG} {Ln : Int} {d : Nat} {Q : Option KV → KG → KH → Prop} (hQ : ∀ h2 : KH, gC g ≤ 600000 → gS g ≤ 7302250 → Q (some (xI 1)) g h2) : ∀ (m : Nat) (i : Int) (h : KH) (W : Wd), LwI g h W Ln → 0 ≤ i → Ln < i + (m : Int) → Rn (d + 40) 266 18 [xR (-4), xR 0, xR 138, xI i] [] g h Q := by
  intro m
  induction m with
  | zero =>
    intro i h W I i0 hm
    have lm := I.lm
    rw [B266_18, ga (by rw [I.ks]; decide), I.ls, w32_id (by omega) (by omega), if_pos (by omega), ga (by decide)]
    exact hQ h I.n1 I.n2
  | succ m ih =>
    intro i h W I i0 hm
    have lm := I.lm
    rw [B266_18, ga (by rw [I.ks]; decide), I.ls, w32_id (x := Ln - 6) (by omega) (by omega)]
    by_cases z : Ln - 6 < i
    · rw [if_pos z, ga (by decide)]
      exact hQ h I.n1 I.n2
    rw [if_neg z, ga ⟨I.ks, i0, by omega⟩]
    have nx : ∀ (W2 : Wd) (h2 : KH), LwI g h2 W2 Ln → Rn (d + 40) 266 1650 [xR (-4), xR 0, xR 138, xI i] [] g h2 Q := by
      intro W2 h2 I2
      rw [B266_1650, w32_id (by omega) (by omega)]
      exact ih (i + 6) h2 W2 I2 (by omega) (by omega)
    generalize and32 (h (-4) i) 63 = x
    rw [Sw_cons]
    by_cases z0 : x = 0
    · rw [if_pos z0]; exact K0 I i0 (by omega) nx
    rw [if_neg z0]
    rw [Sw_cons]
    by_cases z1 : x = 1
    · rw [if_pos z1]; exact K1 I i0 (by omega) nx
    rw [if_neg z1]
    rw [Sw_cons]
    by_cases z2 : x = 2
    · rw [if_pos z2]; exact K2 I i0 (by omega) nx
    rw [if_neg z2]
    rw [Sw_cons]
    by_cases z3 : x = 3
    · rw [if_pos z3]; exact K3 I i0 (by omega) nx
    rw [if_neg z3]
    rw [Sw_cons]
    by_cases z4 : x = 4
    · rw [if_pos z4]; exact K4 I i0 (by omega) nx
    rw [if_neg z4]
    rw [Sw_cons]
    by_cases z5 : x = 5
    · rw [if_pos z5]; exact K5 I i0 (by omega) nx
    rw [if_neg z5]
    rw [Sw_cons]
    by_cases z6 : x = 6
    · rw [if_pos z6]; exact K6 I i0 (by omega) nx
    rw [if_neg z6]
    rw [Sw_cons]
    by_cases z7 : x = 7
    · rw [if_pos z7]; exact K7 I i0 (by omega) nx
    rw [if_neg z7]
    rw [Sw_cons]
    by_cases z8 : x = 8
    · rw [if_pos z8]; exact K8 I i0 (by omega) nx
    rw [if_neg z8]
    rw [Sw_cons]
    by_cases z9 : x = 9
    · rw [if_pos z9]; exact K9 I i0 (by omega) nx
    rw [if_neg z9]
    rw [Sw_cons]
    by_cases z10 : x = 10
    · rw [if_pos z10]; exact K10 I i0 (by omega) nx
    rw [if_neg z10]
    rw [Sw_cons]
    by_cases z11 : x = 11
    · rw [if_pos z11]; exact K11 I i0 (by omega) nx
    rw [if_neg z11]
    rw [Sw_cons]
    by_cases z12 : x = 12
    · rw [if_pos z12]; exact K12 I i0 (by omega) nx
    rw [if_neg z12]
    rw [Sw_cons]
    by_cases z13 : x = 13
    · rw [if_pos z13]; exact K13 I i0 (by omega) nx
    rw [if_neg z13]
    rw [Sw_cons]
    by_cases z14 : x = 14
    · rw [if_pos z14]; exact K14 I i0 (by omega) nx
    rw [if_neg z14]
    rw [Sw_cons]
    by_cases z15 : x = 15
    · rw [if_pos z15]; exact K15 I i0 (by omega) nx
    rw [if_neg z15]
    rw [Sw_cons]
    by_cases z16 : x = 16
    · rw [if_pos z16]; exact K16 I i0 (by omega) nx
    rw [if_neg z16]
    rw [Sw_cons]
    by_cases z17 : x = 17
    · rw [if_pos z17]; exact K17 I i0 (by omega) nx
    rw [if_neg z17]
    rw [Sw_cons]
    by_cases z18 : x = 18
    · rw [if_pos z18]; exact K18 I i0 (by omega) nx
    rw [if_neg z18]
    rw [Sw_cons]
    by_cases z19 : x = 19
    · rw [if_pos z19]; exact K19 I i0 (by omega) nx
    rw [if_neg z19]
    rw [Sw_cons]
    by_cases z20 : x = 20
    · rw [if_pos z20]; exact K20 I i0 (by omega) nx
    rw [if_neg z20]
    rw [Sw_cons]
    by_cases z21 : x = 21
    · rw [if_pos z21]; exact K21 I i0 (by omega) nx
    rw [if_neg z21]
    rw [Sw_cons]
    by_cases z22 : x = 22
    · rw [if_pos z22]; exact K22 I i0 (by omega) nx
    rw [if_neg z22]
    rw [Sw_cons]
    by_cases z23 : x = 23
    · rw [if_pos z23]; exact K23 I i0 (by omega) nx
    rw [if_neg z23]
    rw [Sw_cons]
    by_cases z24 : x = 24
    · rw [if_pos z24]; exact K24 I i0 (by omega) nx
    rw [if_neg z24]
    rw [Sw_cons]
    by_cases z25 : x = 25
    · rw [if_pos z25]; exact K25 I i0 (by omega) nx
    rw [if_neg z25]
    rw [Sw_cons]
    by_cases z26 : x = 26
    · rw [if_pos z26]; exact K26 I i0 (by omega) nx
    rw [if_neg z26]
    rw [Sw_cons]
    by_cases z27 : x = 27
    · rw [if_pos z27]; exact K27 I i0 (by omega) nx
    rw [if_neg z27]
    rw [Sw_cons]
    by_cases z28 : x = 28
    · rw [if_pos z28]; exact K28 I i0 (by omega) nx
    rw [if_neg z28]
    rw [Sw_cons]
    by_cases z29 : x = 29
    · rw [if_pos z29]; exact K29 I i0 (by omega) nx
    rw [if_neg z29]
    rw [Sw_cons]
    by_cases z30 : x = 30
    · rw [if_pos z30]; exact K30 I i0 (by omega) nx
    rw [if_neg z30]
    rw [Sw_cons]
    by_cases z31 : x = 31
    · rw [if_pos z31]; exact K31 I i0 (by omega) nx
    rw [if_neg z31]
    rw [Sw_cons]
    by_cases z32 : x = 32
    · rw [if_pos z32]; exact K32 I i0 (by omega) nx
    rw [if_neg z32]
    rw [Sw_cons]
    by_cases z33 : x = 33
    · rw [if_pos z33]; exact K33 I i0 (by omega) nx
    rw [if_neg z33]
    rw [Sw_cons]
    by_cases z34 : x = 34
    · rw [if_pos z34]; exact K34 I i0 (by omega) nx
    rw [if_neg z34]
    rw [Sw_cons]
    by_cases z35 : x = 35
    · rw [if_pos z35]; exact K35 I i0 (by omega) nx
    rw [if_neg z35]
    rw [Sw_cons]
    by_cases z36 : x = 36
    · rw [if_pos z36]; exact K36 I i0 (by omega) nx
    rw [if_neg z36]
    rw [Sw_cons]
    by_cases z37 : x = 37
    · rw [if_pos z37]; exact K37 I i0 (by omega) nx
    rw [if_neg z37]
    rw [Sw_cons]
    by_cases z38 : x = 38
    · rw [if_pos z38]; exact K38 I i0 (by omega) nx
    rw [if_neg z38]
    rw [Sw_cons]
    by_cases z39 : x = 39
    · rw [if_pos z39]; exact K39 I i0 (by omega) nx
    rw [if_neg z39]
    rw [Sw_cons]
    by_cases z40 : x = 40
    · rw [if_pos z40]; exact K40 I i0 (by omega) nx
    rw [if_neg z40]
    rw [Sw_cons]
    by_cases z41 : x = 41
    · rw [if_pos z41]; exact K41 I i0 (by omega) nx
    rw [if_neg z41]
    rw [Sw_cons]
    by_cases z42 : x = 42
    · rw [if_pos z42]; exact K42 I i0 (by omega) nx
    rw [if_neg z42]
    rw [Sw_nil]
    exact nx W h I
