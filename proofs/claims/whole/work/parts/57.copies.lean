/-! copies of tables, lands, rules, states -/
theorem hc_a {h : KH} {a i b j n c : Int} (q : c ≠ b) : hcopy h a i b j n c = h c := by funext k; unfold hcopy; rw [if_neg (fun z => q z.1)]
theorem hc_e {h : KH} {a b n k : Int} (k0 : 0 ≤ k) (k1 : k < n) : hcopy h a 0 b 0 n b k = h a k := by
  unfold hcopy
  rw [if_pos ⟨rfl, k0, by omega⟩]
  have : 0 + (k - 0) = k := by omega
  rw [this]
theorem TK.keep0 {g : KG} {h h2 : KH} {t : Int} (T : TK g h t) (e : h2 t = h t) : TK g h2 t := by
  unfold TK at T ⊢
  rw [e]
  exact T
theorem S67 {g : KG} {h : KH} {a b : Int} (X : TK g h a) (Y : TK g h b) (D : a + 3 < b ∨ b + 3 < a) (a0 : 0 ≤ a) (b0 : 0 ≤ b) {d : Nat} {Q : Option KV → KG → KH → Prop} (hQ : ∀ h2 : KH, (∀ c, c ≠ a + 1 → c ≠ a + 3 → h2 c = h c) → (∀ j, 0 ≤ j → j < 6 → h2 (a + 1) j = h (b + 1) j) → (∀ j, 0 ≤ j → j < 96 → h2 (a + 3) j = h (b + 3) j) → Q none g h2) : Cl (d + 1) 67 [xR a, xR b] g h Q := by
  have z1 : hcopy h (b + 1) 0 (a + 1) 0 6 a = h a := hc_a (by omega)
  have z2 : hcopy h (b + 1) 0 (a + 1) 0 6 b = h b := hc_a (by omega)
  rw [E67, ga Y.k0, ga X.k0, ga X.k0, X.p0, Y.p0, ga (by rw [X.k1]; decide), X.l1, ga ⟨Or.inl Y.k1, by rw [X.k1, Y.k1], by omega, by omega, by decide, by decide, by decide, by rw [Y.l1]; decide, by decide⟩, ga Y.k0, ga X.k0, ga X.k0, z1, z2, X.p2, Y.p2, ga (by rw [X.k3]; decide), X.l3, ga ⟨Or.inl Y.k3, by rw [X.k3, Y.k3], by omega, by omega, by decide, by decide, by decide, by rw [Y.l3]; decide, by decide⟩, B67_36]
  refine hQ _ (fun c c1 c3 => by rw [hc_a c3, hc_a c1]) (fun j j0 j1 => by rw [hc_a (by omega), hc_e j0 j1]) (fun j j0 j1 => by rw [hc_e j0 j1, hc_a (by omega)])
theorem TR.copied {g : KG} {h h2 : KH} {a b m : Int} {A : St} (X : TK g h2 a) (Y : TR g h b A m) (O : A.Ok) (hm : bit1 m) (e1 : ∀ j, 0 ≤ j → j < 6 → h2 (a + 1) j = h (b + 1) j) (e3 : ∀ j, 0 ≤ j → j < 96 → h2 (a + 3) j = h (b + 3) j) : TR g h2 a A m := by
  have h6 := O.nq
  refine ⟨X, fun q hq => ?_, fun q r x hq r0 r1 x0 x1 => ?_⟩
  · have q0 := hq.1
    have q1 := hq.2
    rw [e1 q (by omega) (by omega)]; exact Y.b q hq
  · have q0 := hq.1
    have q1 := hq.2
    have c := O.ch q hq
    have r4 := (O.rows hm hq).2
    rw [e3 _ (by omega) (by omega)]; exact Y.w q r x hq r0 r1 x0 x1
theorem S17 {g : KG} {h : KH} {l l2 : Int} {A : St} (X : LK g h l) (XL : TK g h (l + 3)) (XM : TK g h (l + 7)) (Y : LR g h l2 A) (O : A.Ok) (D : l + 12 < l2 ∨ l2 + 12 < l) (a0 : 0 ≤ l) (b0 : 0 ≤ l2) {d : Nat} {Q : Option KV → KG → KH → Prop} (hQ : ∀ h2 : KH, LR g h2 l A → (∀ c, (c < l ∨ l + 12 < c) → h2 c = h c) → Q none g h2) : Cl (d + 2) 17 [xR l, xR l2] g h Q := by
  have hd := O.nd
  have hn := O.nq
  simp (disch := omega) only [E17, B17_32, X.k0, Y.k0, true_and, hset_a, hset_i, Y.nq, Y.nd, Y.wk, Y.ca, Y.cm, X.p3, Y.p3, XL.k0]
  generalize eA : hset (hset (hset (hset (hset h l 0 A.nq) l 5 A.nd) l 8 A.wk) l 9 A.ca) l 10 A.cm = hA
  have fA : ∀ c, c ≠ l → hA c = h c := fun c hc => by rw [← eA]; simp (disch := omega) only [hset_a]
  have gA : ∀ j, (j = 1 ∨ j = 2 ∨ j = 3 ∨ j = 4 ∨ j = 6 ∨ j = 7) → hA l j = h l j := fun j hj => by rw [← eA]; simp (disch := omega) only [hset_i]
  have v0 : hA l 0 = A.nq := by rw [← eA]; simp (disch := omega) only [hset_i, hset_e]
  have v5 : hA l 5 = A.nd := by rw [← eA]; simp (disch := omega) only [hset_i, hset_e]
  have v8 : hA l 8 = A.wk := by rw [← eA]; simp (disch := omega) only [hset_i, hset_e]
  have v9 : hA l 9 = A.ca := by rw [← eA]; simp (disch := omega) only [hset_i, hset_e]
  have v10 : hA l 10 = A.cm := by rw [← eA]; simp (disch := omega) only [hset_e]
  refine S67 (XL.keep (fun c _ _ => fA c (by omega))) (Y.tl.to_.keep (fun c _ _ => fA c (by omega))) (by omega) (by omega) (by omega) (fun hB fB b1 b3 => ?_)
  have yl : hB l = hA l := fB l (by omega) (by omega)
  have yl2 : hB l2 = h l2 := by rw [fB l2 (by omega) (by omega), fA l2 (by omega)]
  rw [o0, List.nil_append, B17_51, ga X.k0, ga Y.k0, yl, yl2, gA 4 (by decide), X.p4, Y.p4, ga XM.k0]
  have kB : ∀ c, c ≠ l → c ≠ l + 4 → c ≠ l + 6 → hB c = h c := fun c c1 c2 c3 => by rw [fB c (by omega) (by omega), fA c c1]
  refine S67 (XM.keep (fun c _ _ => kB c (by omega) (by omega) (by omega))) (Y.tm.to_.keep (fun c _ _ => kB c (by omega) (by omega) (by omega))) (by omega) (by omega) (by omega) (fun hC fC c1 c3 => ?_)
  have zl : hC l = hA l := by rw [fC l (by omega) (by omega), yl]
  have kC : ∀ c, c ≠ l → c ≠ l + 4 → c ≠ l + 6 → c ≠ l + 8 → c ≠ l + 10 → hC c = h c := fun c c1 c2 c3 c4 c5 => by rw [fC c (by omega) (by omega), kB c c1 c2 c3]
  have zl2 : hC l2 = h l2 := kC l2 (by omega) (by omega) (by omega) (by omega) (by omega)
  have w1 : hcopy hC (l2 + 2) 0 (l + 2) 0 6 l = hA l := by rw [hc_a (by omega), zl]
  have w2 : hcopy hC (l2 + 2) 0 (l + 2) 0 6 l2 = h l2 := by rw [hc_a (by omega), zl2]
  rw [o0, List.nil_append, B17_62, ga Y.k0, ga X.k0, ga X.k0, zl, zl2, gA 2 (by decide), X.p2, Y.p2, ga (by rw [X.k2]; decide), X.l2, ga ⟨Or.inl Y.k2, by rw [X.k2, Y.k2], by omega, by omega, by decide, by decide, by decide, by rw [Y.l2]; decide, by decide⟩, ga Y.k0, ga X.k0, ga X.k0, w1, w2, gA 6 (by decide), X.p6, Y.p6, ga (by rw [X.k11]; decide), X.l11, ga ⟨Or.inl Y.k11, by rw [X.k11, Y.k11], by omega, by omega, by decide, by decide, by decide, by rw [Y.l11]; decide, by decide⟩]
  have u1 : hcopy (hcopy hC (l2 + 2) 0 (l + 2) 0 6) (l2 + 11) 0 (l + 11) 0 16 l = hA l := by rw [hc_a (by omega), w1]
  have u2 : hcopy (hcopy hC (l2 + 2) 0 (l + 2) 0 6) (l2 + 11) 0 (l + 11) 0 16 l2 = h l2 := by rw [hc_a (by omega), w2]
  rw [B17_98, ga Y.k0, ga X.k0, ga X.k0, u1, u2, gA 7 (by decide), X.p7, Y.p7, ga (by rw [X.k12]; decide), X.l12, ga ⟨Or.inl Y.k12, by rw [X.k12, Y.k12], by omega, by omega, by decide, by decide, by decide, by rw [Y.l12]; decide, by decide⟩]
  generalize eF : hcopy (hcopy (hcopy hC (l2 + 2) 0 (l + 2) 0 6) (l2 + 11) 0 (l + 11) 0 16) (l2 + 12) 0 (l + 12) 0 16 = hF
  have kF : ∀ c, c ≠ l + 2 → c ≠ l + 11 → c ≠ l + 12 → hF c = hC c := fun c c1 c2 c3 => by rw [← eF, hc_a c3, hc_a c2, hc_a c1]
  have xl : hF l = hA l := by rw [kF l (by omega) (by omega) (by omega), zl]
  have x1 : ∀ j, 0 ≤ j → j < 6 → hF (l + 2) j = h (l2 + 2) j := fun j j0 j1 => by rw [← eF, hc_a (by omega), hc_a (by omega), hc_e j0 j1, kC _ (by omega) (by omega) (by omega) (by omega) (by omega)]
  have x2 : ∀ j, 0 ≤ j → j < 16 → hF (l + 11) j = h (l2 + 11) j := fun j j0 j1 => by rw [← eF, hc_a (by omega), hc_e j0 j1, hc_a (by omega), kC _ (by omega) (by omega) (by omega) (by omega) (by omega)]
  have x3 : ∀ j, 0 ≤ j → j < 16 → hF (l + 12) j = h (l2 + 12) j := fun j j0 j1 => by rw [← eF, hc_e j0 j1, hc_a (by omega), hc_a (by omega), kC _ (by omega) (by omega) (by omega) (by omega) (by omega)]
  refine hQ hF ⟨⟨X.k0, X.k1, X.l1, X.k2, X.l2, X.k11, X.l11, X.k12, X.l12, by rw [xl, gA 1 (by decide)]; exact X.p1, by rw [xl, gA 2 (by decide)]; exact X.p2, by rw [xl, gA 3 (by decide)]; exact X.p3, by rw [xl, gA 4 (by decide)]; exact X.p4, by rw [xl, gA 6 (by decide)]; exact X.p6, by rw [xl, gA 7 (by decide)]; exact X.p7⟩, by rw [xl]; exact v0, by rw [xl]; exact v5, by rw [xl]; exact v8, by rw [xl]; exact v9, by rw [xl]; exact v10, fun q hq => ?_, ?_, ?_, fun i i0 i1 => ?_, fun i i0 i1 => ?_⟩ (fun c hc => by rw [kF c (by omega) (by omega) (by omega), kC c (by omega) (by omega) (by omega) (by omega) (by omega)])
  · have q0 := hq.1
    have q1 := hq.2
    rw [x1 q q0 (by omega)]; exact Y.ch q hq
  · refine TR.copied (XL.keep0 ?_) Y.tl O (Or.inl rfl) (fun j j0 j1 => ?_) (fun j j0 j1 => ?_)
    · rw [kF _ (by omega) (by omega) (by omega), kC _ (by omega) (by omega) (by omega) (by omega) (by omega)]
    · rw [kF _ (by omega) (by omega) (by omega), fC _ (by omega) (by omega), b1 j j0 j1, fA _ (by omega)]
    · rw [kF _ (by omega) (by omega) (by omega), fC _ (by omega) (by omega), b3 j j0 j1, fA _ (by omega)]
  · refine TR.copied (XM.keep0 ?_) Y.tm O (Or.inr rfl) (fun j j0 j1 => ?_) (fun j j0 j1 => ?_)
    · rw [kF _ (by omega) (by omega) (by omega), kC _ (by omega) (by omega) (by omega) (by omega) (by omega)]
    · rw [kF _ (by omega) (by omega) (by omega), c1 j j0 j1, kB _ (by omega) (by omega) (by omega)]
    · rw [kF _ (by omega) (by omega) (by omega), c3 j j0 j1, kB _ (by omega) (by omega) (by omega)]
  · rw [x2 i i0 (by omega)]; exact Y.dx i i0 i1
  · rw [x3 i i0 (by omega)]; exact Y.dy i i0 i1
theorem St.Ok.rsp {A : St} (O : A.Ok) : 0 ≤ A.rs A.nr ∧ A.rs A.nr ≤ 200 ∧ ∀ r, 0 ≤ r → r ≤ A.nr → 0 ≤ A.rs r ∧ A.rs r ≤ A.rs A.nr := by
  have hn := O.nr
  have up : ∀ n : Nat, (n : Int) ≤ A.nr → 0 ≤ A.rs n := by
    intro n
    induction n with
    | zero => intro _; show 0 ≤ A.rs 0; rw [O.rs0]; decide
    | succ n ih =>
      intro h
      have := O.rs n (by omega) (by omega)
      have := ih (by omega)
      have e : ((n + 1 : Nat) : Int) = (n : Int) + 1 := by omega
      rw [e]; omega
  have dn : ∀ n : Nat, ∀ r : Int, 0 ≤ r → r + n = A.nr → A.rs r ≤ A.rs A.nr := by
    intro n
    induction n with
    | zero => intro r _ h; have : r = A.nr := by omega
              rw [this]; exact Int.le_refl _
    | succ n ih =>
      intro r r0 h
      have := O.rs r r0 (by omega)
      have := ih (r + 1) (by omega) (by omega)
      omega
  have a := up A.nr.toNat (by omega)
  have e : ((A.nr.toNat : Nat) : Int) = A.nr := by omega
  rw [e] at a
  refine ⟨a, O.rsm, fun r r0 r1 => ?_⟩
  have b := up r.toNat (by omega)
  have e2 : ((r.toNat : Nat) : Int) = r := by omega
  rw [e2] at b
  exact ⟨b, dn (A.nr - r).toNat r r0 (by omega)⟩
theorem S37 {g : KG} {h : KH} {r r2 : Int} {A : St} (X : RK g h r) (Y : RR g h r2 A) (O : A.Ok) (D : r + 2 < r2 ∨ r2 + 2 < r) (a0 : 0 ≤ r) (b0 : 0 ≤ r2) {d : Nat} {Q : Option KV → KG → KH → Prop} (hQ : ∀ h2 : KH, RR g h2 r A → (∀ c, (c < r ∨ r + 2 < c) → h2 c = h c) → Q none g h2) : Cl (d + 1) 37 [xR r, xR r2] g h Q := by
  have hn := O.nr
  have hm := O.rsm
  have h0 : 0 ≤ A.rs A.nr := O.rsp.1
  have z1 : (hset (hset h r 0 A.nr) r 1 (A.rs A.nr)) r 2 = r + 1 := by simp (disch := omega) only [hset_i]; exact X.p2
  simp (disch := omega) only [E37, X.k0, Y.k0, true_and, hset_a, hset_i, Y.nr, Y.ln, X.p2, Y.p2, z1, X.l1]
  rw [ga (by rw [X.k1]; decide), ga ⟨Or.inl Y.k1, by rw [X.k1, Y.k1], by omega, by omega, by decide, by decide, by decide, by rw [Y.l1]; decide, by decide⟩]
  generalize eA : hcopy (hset (hset h r 0 A.nr) r 1 (A.rs A.nr)) (r2 + 1) 0 (r + 1) 0 5 = hA
  have fA : ∀ c, c ≠ r → c ≠ r + 1 → hA c = h c := fun c c1 c2 => by rw [← eA, hc_a c2, hset_a _ _ _ c1, hset_a _ _ _ c1]
  have gA : ∀ j, (j = 2 ∨ j = 3) → hA r j = h r j := fun j hj => by rw [← eA, hc_a (by omega)]; simp (disch := omega) only [hset_i]
  have v0 : hA r 0 = A.nr := by rw [← eA, hc_a (by omega)]; simp (disch := omega) only [hset_i, hset_e]
  have v1 : hA r 1 = A.rs A.nr := by rw [← eA, hc_a (by omega)]; simp (disch := omega) only [hset_e]
  have e1 : ∀ j, 0 ≤ j → j < 5 → hA (r + 1) j = h (r2 + 1) j := fun j j0 j1 => by rw [← eA, hc_e j0 j1]; simp (disch := omega) only [hset_a]
  rw [B37_34, ga Y.k0, ga X.k0, ga X.k0, fA r2 (by omega) (by omega), gA 3 (by decide), X.p3, Y.p3, v1, ga ⟨Or.inl Y.k2, by rw [X.k2, Y.k2], by omega, by omega, by decide, by decide, h0, by rw [Y.l2]; omega, by rw [X.l2]; omega⟩]
  have xl : hcopy hA (r2 + 2) 0 (r + 2) 0 (A.rs A.nr) r = hA r := hc_a (by omega)
  refine hQ _ ⟨⟨X.k0, X.k1, X.l1, X.k2, X.l2, by rw [xl, gA 2 (by decide)]; exact X.p2, by rw [xl, gA 3 (by decide)]; exact X.p3⟩, by rw [xl]; exact v0, by rw [xl]; exact v1, fun i i0 i1 => ?_, fun k k0 k1 => ?_⟩ (fun c hc => by rw [hc_a (by omega), fA c (by omega) (by omega)])
  · rw [hc_a (by omega), e1 i i0 (by omega)]; exact Y.rs i i0 i1
  · rw [hc_e k0 k1, fA _ (by omega) (by omega)]; exact Y.cd k k0 k1
/-- the objects of a state -/
def near (s l r a : Int) : Prop := a = s ∨ (s + 17 ≤ a ∧ a ≤ s + 24) ∨ (l ≤ a ∧ a ≤ l + 12) ∨ (r ≤ a ∧ a ≤ r + 2)
/-- where the states lie: now, or a mark's -/
def Lay (s l r : Int) : Prop := (s = 6 ∧ (l = 7 ∨ l = 39) ∧ (r = 20 ∨ r = 52)) ∨ (63 ≤ s ∧ s ≤ 113 ∧ l = s + 1 ∧ r = s + 14)
def cp8 (h : KH) (s s2 n : Int) : KH := hcopy (hcopy (hcopy (hcopy (hcopy (hcopy (hcopy (hcopy (hset h s 2 n) (s2 + 17) 0 (s + 17) 0 n) (s2 + 18) 0 (s + 18) 0 n) (s2 + 19) 0 (s + 19) 0 n) (s2 + 20) 0 (s + 20) 0 n) (s2 + 21) 0 (s + 21) 0 n) (s2 + 22) 0 (s + 22) 0 n) (s2 + 23) 0 (s + 23) 0 n) (s2 + 24) 0 (s + 24) 0 n
theorem cp8_s {h : KH} {s s2 n : Int} (j : Int) : cp8 h s s2 n s j = hset h s 2 n s j := by
  unfold cp8
  simp (disch := omega) only [hc_a]
theorem cp8_o {h : KH} {s s2 n c : Int} (c1 : c ≠ s) (c2 : c < s + 17 ∨ s + 24 < c) : cp8 h s s2 n c = h c := by
  unfold cp8
  simp (disch := omega) only [hc_a, hset_a]
theorem cp8_a {h : KH} {s s2 n : Int} (D : s + 24 < s2 ∨ s2 + 24 < s) (k : Int) (hk : 17 ≤ k ∧ k ≤ 24) {j : Int} (j0 : 0 ≤ j) (j1 : j < n) : cp8 h s s2 n (s + k) j = h (s2 + k) j := by
  have : k = 17 ∨ k = 18 ∨ k = 19 ∨ k = 20 ∨ k = 21 ∨ k = 22 ∨ k = 23 ∨ k = 24 := by omega
  unfold cp8
  rcases this with rfl | rfl | rfl | rfl | rfl | rfl | rfl | rfl <;> simp (disch := omega) only [hc_a, hc_e, hset_a]
theorem cp8_fin {g : KG} {h hF : KH} {s l r s2 l2 r2 : Int} {A : St} (X : SH g h s l r) (Y : SR g h s2 l2 r2 A) (F2 : hF s 2 = A.ns) (FS : ∀ j, j ≠ 2 → hF s j = h s j) (LB : LR g hF l A) (RB : RR g hF r A) (FA : ∀ k : Int, (17 ≤ k ∧ k ≤ 24) → ∀ j, 0 ≤ j → j < A.ns → hF (s + k) j = h (s2 + k) j) : SR g hF s l r A := by
  have X0 := X.sk
  exact ⟨⟨X0.k0, X0.k17, X0.l17, X0.k18, X0.l18, X0.k19, X0.l19, X0.k20, X0.l20, X0.k21, X0.l21, X0.k22, X0.l22, X0.k23, X0.l23, X0.k24, X0.l24, by rw [FS 3 (by decide)]; exact X0.p3, by rw [FS 4 (by decide)]; exact X0.p4, by rw [FS 5 (by decide)]; exact X0.p5, by rw [FS 6 (by decide)]; exact X0.p6, by rw [FS 7 (by decide)]; exact X0.p7, by rw [FS 8 (by decide)]; exact X0.p8, by rw [FS 9 (by decide)]; exact X0.p9, by rw [FS 10 (by decide)]; exact X0.p10⟩, by rw [FS 0 (by decide)]; exact X.pl, by rw [FS 1 (by decide)]; exact X.pr, LB, RB, F2, fun i hi => by rw [FA 17 (by decide) i hi.1 hi.2]; exact Y.ask i hi, fun i hi => by rw [FA 18 (by decide) i hi.1 hi.2]; exact Y.dr i hi, fun i hi => by rw [FA 19 (by decide) i hi.1 hi.2]; exact Y.fr i hi, fun i hi => by rw [FA 20 (by decide) i hi.1 hi.2]; exact Y.tt i hi, fun i hi => by rw [FA 21 (by decide) i hi.1 hi.2]; exact Y.pa i hi, fun i hi => by rw [FA 22 (by decide) i hi.1 hi.2]; exact Y.cd i hi, fun i hi => by rw [FA 23 (by decide) i hi.1 hi.2]; exact Y.tr i hi, fun i hi h3 => by rw [FA 24 (by decide) i hi.1 hi.2]; exact Y.hf i hi h3⟩
theorem S49 {g : KG} {h : KH} {s l r s2 l2 r2 : Int} {A : St} (X : SH g h s l r) (Y : SR g h s2 l2 r2 A) (O : A.Ok) (V : Lay s l r) (V2 : Lay s2 l2 r2) (D : (s = 6 ∧ 63 ≤ s2) ∨ (63 ≤ s ∧ s2 = 6)) {d : Nat} {Q : Option KV → KG → KH → Prop} (hQ : ∀ h2 : KH, SR g h2 s l r A → (∀ c, ¬ near s l r c → h2 c = h c) → Q none g h2) : Cl (d + 3) 49 [xR s, xR s2] g h Q := by
  unfold Lay at V V2
  unfold near at hQ
  have hns := O.ns
  have X0 := X.sk
  have Y0 := Y.to_
  rw [E49, ga X0.k0, ga Y.k0, X.pl, Y.pl, ga X.lk.k0]
  refine S17 X.lk X.tl X.tm Y.L O (by omega) (by omega) (by omega) (fun hA LA fA => ?_)
  have as : hA s = h s := fA s (by omega)
  have as2 : hA s2 = h s2 := fA s2 (by omega)
  rw [o0, List.nil_append, B49_11, ga X0.k0, ga Y.k0, as, as2, X.pr, Y.pr, ga X.rk.k0]
  refine S37 (X.rk.keep (fun c _ _ => fA c (by omega))) (Y.R.keep (fun c _ _ => fA c (by omega))) O (by omega) (by omega) (by omega) (fun hB RB fB => ?_)
  have LB : LR g hB l A := LA.keep (fun c _ _ => fB c (by omega))
  have kB : ∀ c, (c < l ∨ l + 12 < c) → (c < r ∨ r + 2 < c) → hB c = h c := fun c c1 c2 => by rw [fB c c2, fA c c1]
  have p0 : hB s = h s := kB s (by omega) (by omega)
  have q0 : hB s2 = h s2 := kB s2 (by omega) (by omega)
  have P3 : hB s 3 = s + 17 := by rw [p0]; exact X0.p3
  have P4 : hB s 4 = s + 18 := by rw [p0]; exact X0.p4
  have P5 : hB s 5 = s + 19 := by rw [p0]; exact X0.p5
  have P6 : hB s 6 = s + 20 := by rw [p0]; exact X0.p6
  have P7 : hB s 7 = s + 21 := by rw [p0]; exact X0.p7
  have P8 : hB s 8 = s + 22 := by rw [p0]; exact X0.p8
  have P9 : hB s 9 = s + 23 := by rw [p0]; exact X0.p9
  have P10 : hB s 10 = s + 24 := by rw [p0]; exact X0.p10
  have Q2 : hB s2 2 = A.ns := by rw [q0]; exact Y.ns
  have Q3 : hB s2 3 = s2 + 17 := by rw [q0]; exact Y0.p3
  have Q4 : hB s2 4 = s2 + 18 := by rw [q0]; exact Y0.p4
  have Q5 : hB s2 5 = s2 + 19 := by rw [q0]; exact Y0.p5
  have Q6 : hB s2 6 = s2 + 20 := by rw [q0]; exact Y0.p6
  have Q7 : hB s2 7 = s2 + 21 := by rw [q0]; exact Y0.p7
  have Q8 : hB s2 8 = s2 + 22 := by rw [q0]; exact Y0.p8
  have Q9 : hB s2 9 = s2 + 23 := by rw [q0]; exact Y0.p9
  have Q10 : hB s2 10 = s2 + 24 := by rw [q0]; exact Y0.p10
  rw [o0, List.nil_append]
  simp (disch := omega) only [B49_22, B49_56, B49_81, B49_115, B49_149, X0.k0, Y0.k0, true_and, hset_a, hset_i, hset_e, hc_a, P3, P4, P5, P6, P7, P8, P9, P10, Q2, Q3, Q4, Q5, Q6, Q7, Q8, Q9, Q10, X0.k17, X0.l17, X0.k18, X0.l18, X0.k19, X0.l19, X0.k20, X0.l20, X0.k21, X0.l21, X0.k22, X0.l22, X0.k23, X0.l23, X0.k24, X0.l24, Y0.k17, Y0.l17, Y0.k18, Y0.l18, Y0.k19, Y0.l19, Y0.k20, Y0.l20, Y0.k21, Y0.l21, Y0.k22, Y0.l22, Y0.k23, Y0.l23, Y0.k24, Y0.l24, true_or, ga]
  show Q none g (cp8 hB s s2 A.ns)
  have D2 : s + 24 < s2 ∨ s2 + 24 < s := by omega
  have F2 : cp8 hB s s2 A.ns s 2 = A.ns := by rw [cp8_s, hset_e]
  have FS : ∀ j, j ≠ 2 → cp8 hB s s2 A.ns s j = h s j := fun j hj => by rw [cp8_s, hset_i _ _ hj, p0]
  have FO : ∀ c, c ≠ s → (c < s + 17 ∨ s + 24 < c) → cp8 hB s s2 A.ns c = hB c := fun c c1 c2 => cp8_o c1 c2
  have FA : ∀ k : Int, (17 ≤ k ∧ k ≤ 24) → ∀ j, 0 ≤ j → j < A.ns → cp8 hB s s2 A.ns (s + k) j = h (s2 + k) j := fun k hk j j0 j1 => by
    rw [cp8_a D2 k hk j0 j1, kB _ (by clear F2 FS FO; omega) (by clear F2 FS FO; omega)]
  exact hQ _ (cp8_fin X Y F2 FS (LB.keep (fun c c1 c2 => FO c (by omega) (by omega))) (RB.keep (fun c c1 c2 => FO c (by omega) (by omega))) FA) (fun c hc => by rw [FO c (by omega) (by omega)]; exact kB c (by omega) (by omega))
