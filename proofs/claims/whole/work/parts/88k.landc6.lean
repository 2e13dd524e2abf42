/-! the whole text of a land, on the class's side -/
theorem S66 {g : KG} {h : KH} {tt : Int} (ht : 0 ≤ tt) (K0 : TK g h tt) {d : Nat} {Q : Option KV → KG → KH → Prop} (hQ : ∀ h2 : KH, (∀ a, a ≠ tt + 1 → a ≠ tt + 2 → h2 a = h a) → (∀ q, 0 ≤ q → q < 6 → h2 (tt + 1) q = -1 ∧ h2 (tt + 2) q = 0) → Q none g h2) : Cl (d + 1) 66 [xR tt] g h Q := by
  have lp : ∀ m i : Nat, i + m = 6 → ∀ h1 : KH, (∀ a, a ≠ tt + 1 → a ≠ tt + 2 → h1 a = h a) → (∀ q, 0 ≤ q → q < (i : Int) → h1 (tt + 1) q = -1 ∧ h1 (tt + 2) q = 0) → Rn d 66 2 [xR tt, xI (i : Int)] [] g h1 Q := by
    intro m
    induction m with
    | zero =>
      intro i hi h1 f1 c1
      rw [B66_2, if_pos (by omega)]
      exact hQ h1 f1 (fun q q0 q1 => c1 q q0 (by omega))
    | succ m ih =>
      intro i hi h1 f1 c1
      have e1 : ((i : Int) + 1) = ((i + 1 : Nat) : Int) := by omega
      have y0 : h1 tt = h tt := f1 tt (by omega) (by omega)
      have y1 : (hset h1 (tt + 1) i (-1)) tt = h tt := by rw [hset_a _ _ _ (by omega), y0]
      rw [B66_2, if_neg (by omega), ga K0.k0, y0, K0.p0, ga ⟨K0.k1, by omega, by omega, by rw [K0.l1]; omega⟩, ga K0.k0, y1, K0.p1, ga ⟨Or.inr ⟨K0.k2, by decide, by decide⟩, by omega, by rw [K0.l2]; omega⟩, w32_id (by omega) (by omega), e1]
      refine ih (i + 1) (by omega) _ (fun a a1 a2 => by rw [hset_a _ _ _ a2, hset_a _ _ _ a1, f1 a a1 a2]) (fun q q0 q1 => ?_)
      by_cases e : q = i
      · rw [e]
        exact ⟨by rw [hset_a _ _ _ (by omega), hset_e], hset_e _ _ _ _⟩
      · have z := c1 q q0 (by omega)
        exact ⟨by rw [hset_a _ _ _ (by omega), hset_i _ _ e]; exact z.1, by rw [hset_i _ _ e, hset_a _ _ _ (by omega)]; exact z.2⟩
  rw [E66]
  exact lp 6 0 (by omega) h (fun _ _ _ => rfl) (fun q q0 q1 => by omega)
theorem S69 {g : KG} {h : KH} {tt q c : Int} (ht : 0 ≤ tt) (K0 : TK g h tt) (hq : 0 ≤ q ∧ q < 6) (hc : 2 ≤ c ∧ c ≤ 4) {d : Nat} {Q : Option KV → KG → KH → Prop} (hQ : ∀ h2 : KH, (∀ a, a ≠ tt + 3 → h2 a = h a) → (∀ j, (j < 16 * q ∨ 16 * q + 16 ≤ j) → h2 (tt + 3) j = h (tt + 3) j) → (∀ a, 0 ≤ a → a < c → h2 (tt + 3) (16 * q + a) = shq c a) → Q none g h2) : Cl (d + 2) 69 [xR tt, xI q, xI c] g h Q := by
  have lp : ∀ m : Nat, ∀ i : Int, 0 ≤ i → i + m = c → ∀ h1 : KH, (∀ a, a ≠ tt + 3 → h1 a = h a) → (∀ j, (j < 16 * q ∨ 16 * q + 16 ≤ j) → h1 (tt + 3) j = h (tt + 3) j) → (∀ a, 0 ≤ a → a < i → h1 (tt + 3) (16 * q + a) = shq c a) → Rn (d + 1) 69 2 [xR tt, xI q, xI c, xI i] [] g h1 Q := by
    intro m
    induction m with
    | zero =>
      intro i i0 hi h1 f1 b1 c1
      rw [B69_2, if_pos (by omega)]
      exact hQ h1 f1 b1 (fun a a0 a1 => c1 a a0 (by omega))
    | succ m ih =>
      intro i i0 hi h1 f1 b1 c1
      have y0 : h1 tt = h tt := f1 tt (by omega)
      have fin : ∀ v : Int, w32 (w32 (Int.tdiv 16 c) + v) = shq c i → Rn (d + 1) 69 34 [xR tt, xI q, xI c, xI i] [xI v, xI (w32 (Int.tdiv 16 c)), xI (16 * q + 4 * 0 + i), xR (tt + 3)] g h1 Q := by
        intro v hv
        rw [B69_34, ga ⟨K0.k3, by omega, by omega, by rw [K0.l3]; omega⟩, w32_id (x := i + 1) (by omega) (by omega), hv]
        refine ih (i + 1) (by omega) (by omega) _ (fun a a1 => by rw [hset_a _ _ _ a1, f1 a a1]) (fun j hj => by rw [hset_i _ _ (by omega), b1 j hj]) (fun a a0 a1 => ?_)
        by_cases e : a = i
        · rw [e, show 16 * q + 4 * 0 + i = 16 * q + i by omega, hset_e]
        · rw [hset_i _ _ (by omega)]; exact c1 a a0 (by omega)
      have c3 : c = 2 ∨ c = 3 ∨ c = 4 := by omega
      rw [B69_2, if_neg (by omega), ga K0.k0, y0, K0.p2, S154 hq.1 hq.2 (by decide) (by decide) i0 (by omega), o1, List.cons_append, List.nil_append, B69_17, ga (by omega), ga (by omega)]
      have tm : Int.tmod 16 c = 16 % c := by rcases c3 with rfl | rfl | rfl <;> decide
      have td : w32 (Int.tdiv 16 c) = 16 / c := by rcases c3 with rfl | rfl | rfl <;> decide
      have bd : 0 ≤ 16 / c ∧ 16 / c ≤ 8 := by rcases c3 with rfl | rfl | rfl <;> decide
      rw [tm]
      rw [td] at fin ⊢
      unfold shq at fin
      by_cases z : i < 16 % c
      · rw [if_pos z] at fin
        rw [if_neg (by omega)]
        exact fin 1 (w32_id (by omega) (by omega))
      · rw [if_neg z] at fin
        rw [if_pos (by omega)]
        exact fin 0 (w32_id (by omega) (by omega))
  rw [E69]
  exact lp c.toNat 0 (by decide) (by omega) h (fun _ _ => rfl) (fun _ _ => rfl) (fun a a0 a1 => by omega)
theorem S19 {g : KG} {h : KH} {l : Int} (hl : 0 ≤ l) (lk : LK g h l) (nq : 0 ≤ h l 0 ∧ h l 0 ≤ 6) (ch : ∀ q, 0 ≤ q → q < h l 0 → 2 ≤ h (l + 2) q ∧ h (l + 2) q ≤ 4) (t0 : TK g h (l + 3)) (t1 : TK g h (l + 7)) {d : Nat} {Q : Option KV → KG → KH → Prop} (hQ : ∀ h2 : KH, (∀ a, a ≠ l + 6 → a ≠ l + 10 → h2 a = h a) → (∀ q, 0 ≤ q → q < h l 0 → (h (l + 5) q ≠ 0 → ∀ j, 16 * q ≤ j → j < 16 * q + 16 → h2 (l + 6) j = h (l + 6) j) ∧ (h (l + 5) q = 0 → ∀ a, 0 ≤ a → a < h (l + 2) q → h2 (l + 6) (16 * q + a) = shq (h (l + 2) q) a) ∧ (h (l + 9) q ≠ 0 → ∀ j, 16 * q ≤ j → j < 16 * q + 16 → h2 (l + 10) j = h (l + 10) j) ∧ (h (l + 9) q = 0 → ∀ a, 0 ≤ a → a < h (l + 2) q → h2 (l + 10) (16 * q + a) = shq (h (l + 2) q) a)) → Q none g h2) : Cl (d + 3) 19 [xR l] g h Q := by
  have a6 : l + 3 + 3 = l + 6 := by omega
  have a10 : l + 7 + 3 = l + 10 := by omega
  have a5 : l + 3 + 2 = l + 5 := by omega
  have a9 : l + 7 + 2 = l + 9 := by omega
  have lp : ∀ m : Nat, ∀ i : Int, 0 ≤ i → i + m = h l 0 → ∀ h1 : KH, (∀ a, a ≠ l + 6 → a ≠ l + 10 → h1 a = h a) → (∀ j, 16 * i ≤ j → h1 (l + 6) j = h (l + 6) j ∧ h1 (l + 10) j = h (l + 10) j) → (∀ q, 0 ≤ q → q < i → (h (l + 5) q ≠ 0 → ∀ j, 16 * q ≤ j → j < 16 * q + 16 → h1 (l + 6) j = h (l + 6) j) ∧ (h (l + 5) q = 0 → ∀ a, 0 ≤ a → a < h (l + 2) q → h1 (l + 6) (16 * q + a) = shq (h (l + 2) q) a) ∧ (h (l + 9) q ≠ 0 → ∀ j, 16 * q ≤ j → j < 16 * q + 16 → h1 (l + 10) j = h (l + 10) j) ∧ (h (l + 9) q = 0 → ∀ a, 0 ≤ a → a < h (l + 2) q → h1 (l + 10) (16 * q + a) = shq (h (l + 2) q) a)) → Rn (d + 2) 19 2 [xR l, xI i] [] g h1 Q := by
    intro m
    induction m with
    | zero =>
      intro i i0 hi h1 f1 b1 c1
      rw [B19_2, ga lk.k0, f1 l (by omega) (by omega), if_pos (by omega)]
      exact hQ h1 f1 (fun q q0 q1 => c1 q q0 (by omega))
    | succ m ih =>
      intro i i0 hi h1 f1 b1 c1
      have hc := ch i i0 (by omega)
      have y0 : h1 l = h l := f1 l (by omega) (by omega)
      have y2 : h1 (l + 2) = h (l + 2) := f1 (l + 2) (by omega) (by omega)
      have y3 : h1 (l + 3) = h (l + 3) := f1 (l + 3) (by omega) (by omega)
      have y5 : h1 (l + 5) = h (l + 5) := f1 (l + 5) (by omega) (by omega)
      have K0 : TK g h1 (l + 3) := by
        have Z := t0
        unfold TK at Z ⊢
        rw [y3]; exact Z
      -- the mind's
      have mind : ∀ h2 : KH, (∀ a, a ≠ l + 6 → a ≠ l + 10 → h2 a = h a) → (∀ j, (j < 16 * i ∨ 16 * i + 16 ≤ j) → h2 (l + 6) j = h1 (l + 6) j) → (∀ j, h2 (l + 10) j = h1 (l + 10) j) → (h (l + 5) i ≠ 0 → ∀ j, 16 * i ≤ j → j < 16 * i + 16 → h2 (l + 6) j = h (l + 6) j) → (h (l + 5) i = 0 → ∀ a, 0 ≤ a → a < h (l + 2) i → h2 (l + 6) (16 * i + a) = shq (h (l + 2) i) a) → Rn (d + 2) 19 36 [xR l, xI i] [] g h2 Q := by
        intro h2 f2 b2 e2 n2 z2
        have y0 : h2 l = h l := f2 l (by omega) (by omega)
        have y2 : h2 (l + 2) = h (l + 2) := f2 (l + 2) (by omega) (by omega)
        have y7 : h2 (l + 7) = h (l + 7) := f2 (l + 7) (by omega) (by omega)
        have y9 : h2 (l + 9) = h (l + 9) := f2 (l + 9) (by omega) (by omega)
        have K1 : TK g h2 (l + 7) := by
          have Z := t1
          unfold TK at Z ⊢
          rw [y7]; exact Z
        have step : ∀ h3 : KH, (∀ a, a ≠ l + 6 → a ≠ l + 10 → h3 a = h a) → (∀ j, h3 (l + 6) j = h2 (l + 6) j) → (∀ j, (j < 16 * i ∨ 16 * i + 16 ≤ j) → h3 (l + 10) j = h1 (l + 10) j) → (h (l + 9) i ≠ 0 → ∀ j, 16 * i ≤ j → j < 16 * i + 16 → h3 (l + 10) j = h (l + 10) j) → (h (l + 9) i = 0 → ∀ a, 0 ≤ a → a < h (l + 2) i → h3 (l + 10) (16 * i + a) = shq (h (l + 2) i) a) → Rn (d + 2) 19 62 [xR l, xI i] [] g h3 Q := by
          intro h3 f3 e3 b3 n3 z3
          rw [B19_62, w32_id (by omega) (by omega)]
          refine ih (i + 1) (by omega) (by omega) h3 f3 (fun j hj => ⟨by rw [e3, b2 j (by omega)]; exact (b1 j (by omega)).1, by rw [b3 j (by omega)]; exact (b1 j (by omega)).2⟩) (fun q q0 q1 => ?_)
          by_cases e : q = i
          · rw [e]
            exact ⟨fun y j j0 j1 => by rw [e3]; exact n2 y j j0 j1, fun y a a0 a1 => by rw [e3]; exact z2 y a a0 a1, n3, z3⟩
          · have c := c1 q q0 (by omega)
            have cq := ch q q0 (by omega)
            exact ⟨fun y j j0 j1 => by rw [e3, b2 j (by omega)]; exact c.1 y j j0 j1, fun y a a0 a1 => by rw [e3, b2 _ (by omega)]; exact c.2.1 y a a0 a1, fun y j j0 j1 => by rw [b3 j (by omega)]; exact c.2.2.1 y j j0 j1, fun y a a0 a1 => by rw [b3 _ (by omega)]; exact c.2.2.2 y a a0 a1⟩
        rw [B19_36, ga lk.k0, y0, lk.p4, ga K1.k0, K1.p1, a9, ga ⟨Or.inr (by have := K1.k2; rw [a9] at this; exact this), by omega, by have := K1.l2; rw [a9] at this; omega⟩, y9]
        by_cases z : h (l + 9) i = 0
        · rw [if_neg (fun y => y z), ga lk.k0, ga lk.k0, lk.p2, ga ⟨lk.k2, i0, by rw [lk.l2]; omega⟩, ga K1.k0, y2]
          refine S69 (by omega) K1 ⟨i0, by omega⟩ hc (fun h3 f3 b3 c3 => ?_)
          rw [a10] at f3 b3 c3
          rw [o0, List.nil_append]
          exact step h3 (fun a x6 x10 => by rw [f3 a x10, f2 a x6 x10]) (fun j => by rw [f3 (l + 6) (by omega)]) (fun j hj => by rw [b3 j hj, e2]) (fun y => absurd z y) (fun _ => c3)
        · rw [if_pos z]
          exact step h2 f2 (fun _ => rfl) (fun j _ => e2 j) (fun _ j j0 j1 => by rw [e2]; exact (b1 j (by omega)).2) (fun y => absurd y z)
      rw [B19_2, ga lk.k0, y0, if_neg (by omega), ga lk.k0, lk.p3, ga K0.k0, K0.p1, a5, ga ⟨Or.inr (by have := K0.k2; rw [a5] at this; exact this), by omega, by have := K0.l2; rw [a5] at this; omega⟩, y5]
      by_cases z : h (l + 5) i = 0
      · rw [if_neg (fun y => y z), ga lk.k0, ga lk.k0, lk.p2, ga ⟨lk.k2, i0, by rw [lk.l2]; omega⟩, ga K0.k0, y2]
        refine S69 (by omega) K0 ⟨i0, by omega⟩ hc (fun h3 f3 b3 c3 => ?_)
        rw [a6] at f3 b3 c3
        rw [o0, List.nil_append]
        exact mind h3 (fun a x6 x10 => by rw [f3 a x6, f1 a x6 x10]) b3 (fun j => by rw [f3 (l + 10) (by omega)]) (fun y => absurd z y) (fun _ => c3)
      · rw [if_pos z]
        exact mind h1 f1 (fun _ _ => rfl) (fun _ => rfl) (fun _ j j0 j1 => (b1 j (by omega)).1) (fun y => absurd y z)
  rw [E19]
  exact lp (h l 0).toNat 0 (by decide) (by omega) h (fun _ _ _ => rfl) (fun _ _ => ⟨rfl, rfl⟩) (fun q q0 q1 => by omega)
