/-! THE CLASS's state at s, its rules at r. -/
def stc (o : Int) : Int := if o = 1 then 10 else if o = 2 then 9 else if o = 3 then 8 else o - 3
structure RK (g : KG) (h : KH) (r : Int) : Prop where
  k0 : gK g r = 5
  k1 : gK g (r + 1) = 20
  l1 : gL g (r + 1) = 5
  k2 : gK g (r + 2) = 20
  l2 : gL g (r + 2) = 300
  p2 : h r 2 = r + 1
  p3 : h r 3 = r + 2
structure RR (g : KG) (h : KH) (r : Int) (A : St) : Prop extends RK g h r where
  nr : h r 0 = A.nr
  ln : h r 1 = A.rs A.nr
  rs : ∀ i, 0 ≤ i → i ≤ A.nr → h (r + 1) i = A.rs i
  cd : ∀ k, 0 ≤ k → k < A.rs A.nr → h (r + 2) k = A.nm k * 16 + stc (A.op k)
structure SK (g : KG) (h : KH) (s : Int) : Prop where
  k0 : gK g s = 7
  k17 : gK g (s + 17) = 20
  l17 : gL g (s + 17) = 16
  k18 : gK g (s + 18) = 20
  l18 : gL g (s + 18) = 16
  k19 : gK g (s + 19) = 20
  l19 : gL g (s + 19) = 16
  k20 : gK g (s + 20) = 20
  l20 : gL g (s + 20) = 16
  k21 : gK g (s + 21) = 20
  l21 : gL g (s + 21) = 16
  k22 : gK g (s + 22) = 20
  l22 : gL g (s + 22) = 16
  k23 : gK g (s + 23) = 20
  l23 : gL g (s + 23) = 16
  k24 : gK g (s + 24) = 20
  l24 : gL g (s + 24) = 16
  p3 : h s 3 = s + 17
  p4 : h s 4 = s + 18
  p5 : h s 5 = s + 19
  p6 : h s 6 = s + 20
  p7 : h s 7 = s + 21
  p8 : h s 8 = s + 22
  p9 : h s 9 = s + 23
  p10 : h s 10 = s + 24
structure SR (g : KG) (h : KH) (s l r : Int) (A : St) : Prop extends SK g h s where
  pl : h s 0 = l
  pr : h s 1 = r
  L : LR g h l A
  R : RR g h r A
  ns : h s 2 = A.ns
  ask : ∀ i, ins A i → h (s + 17) i = A.ask i
  dr : ∀ i, ins A i → h (s + 18) i = A.dr i
  fr : ∀ i, ins A i → h (s + 19) i = A.fr i
  tt : ∀ i, ins A i → h (s + 20) i = A.tt i
  pa : ∀ i, ins A i → h (s + 21) i = A.pa i
  cd : ∀ i, ins A i → h (s + 22) i = A.cd i
  tr : ∀ i, ins A i → h (s + 23) i = A.tr i
  hf : ∀ i, ins A i → A.tr i = 3 → h (s + 24) i = A.hf i
def iabs (x : Int) : Int := if 0 ≤ x then x else 0 - x
/-- steps and minutes between two doors -/
def St.steps (A : St) (a b : Int) : Int := iabs (A.dx a - A.dx b) + iabs (A.dy a - A.dy b)
def St.mins (A : St) (a b : Int) : Int := (A.steps a b * A.wk + 9) / 10
theorem St.Ok.steps {A : St} (O : A.Ok) {a b : Int} (ha : 0 ≤ a ∧ a < A.nd) (hb : 0 ≤ b ∧ b < A.nd) : 0 ≤ A.steps a b ∧ A.steps a b ≤ 198 := by
  have h1 := O.dx a ha.1 ha.2
  have h2 := O.dx b hb.1 hb.2
  have h3 := O.dy a ha.1 ha.2
  have h4 := O.dy b hb.1 hb.2
  unfold St.steps iabs
  split <;> split <;> omega
theorem St.Ok.walkm {A : St} (O : A.Ok) {a b : Int} (ha : 0 ≤ a ∧ a < A.nd) (hb : 0 ≤ b ∧ b < A.nd) : 0 ≤ A.steps a b * A.wk ∧ A.steps a b * A.wk ≤ 19602 := by
  have h1 := O.steps ha hb
  have h2 := O.wk
  refine ⟨Int.mul_nonneg h1.1 (by omega), ?_⟩
  have := Int.mul_le_mul h1.2 h2.2 (by omega) (by omega : (0 : Int) ≤ 198)
  omega
theorem St.Ok.mins {A : St} (O : A.Ok) {a b : Int} (ha : 0 ≤ a ∧ a < A.nd) (hb : 0 ≤ b ∧ b < A.nd) : 0 ≤ A.mins a b ∧ A.mins a b ≤ 1961 := by
  have h1 := O.walkm ha hb
  unfold St.mins
  omega
theorem S23 {g : KG} {h : KH} {l : Int} {A : St} (L : LR g h l A) (O : A.Ok) {a b : Int} (ha : 0 ≤ a ∧ a < A.nd) (hb : 0 ≤ b ∧ b < A.nd) {d : Nat} {Q : Option KV → KG → KH → Prop} (hQ : Q (some (xI (A.steps a b))) g h) : Cl (d + 1) 23 [xR l, xI a, xI b] g h Q := by
  have hn := O.nd
  have h1 := O.dx a ha.1 ha.2
  have h2 := O.dx b hb.1 hb.2
  have h3 := O.dy a ha.1 ha.2
  have h4 := O.dy b hb.1 hb.2
  simp (disch := omega) only [E23, L.k0, L.p6, L.p7, L.k11, L.l11, L.k12, L.l12, true_and, ga, L.dx a ha.1 ha.2, L.dx b hb.1 hb.2, L.dy a ha.1 ha.2, L.dy b hb.1 hb.2, w32_id]
  have e : w32 ((if 0 ≤ A.dx a - A.dx b then A.dx a - A.dx b else 0 - (A.dx a - A.dx b)) + (if 0 ≤ A.dy a - A.dy b then A.dy a - A.dy b else 0 - (A.dy a - A.dy b))) = A.steps a b := by
    rw [w32_id]
    · rfl
    · split <;> split <;> omega
    · split <;> split <;> omega
  rw [e]
  exact hQ
theorem S24 {g : KG} {h : KH} {l : Int} {A : St} (L : LR g h l A) (O : A.Ok) {a b : Int} (ha : 0 ≤ a ∧ a < A.nd) (hb : 0 ≤ b ∧ b < A.nd) {d : Nat} {Q : Option KV → KG → KH → Prop} (hQ : Q (some (xI (A.mins a b))) g h) : Cl (d + 2) 24 [xR l, xI a, xI b] g h Q := by
  have h1 := O.walkm ha hb
  rw [E24, ga L.k0]
  refine S23 L O ha hb ?_
  simp (disch := omega) only [E24, B24_6, L.k0, L.wk, true_and, ga, o1, List.cons_append, List.nil_append, w32_id]
  have e : w32 (Int.tdiv (A.steps a b * A.wk + 9) 10) = A.mins a b := by
    rw [Int.tdiv_eq_ediv_of_nonneg (by omega)]
    unfold St.mins
    exact w32_id (by omega) (by omega)
  rw [e]
  have h10 : (10 : Int) ≠ 0 := by decide
  rw [ga h10]
  exact hQ
/-- a card's weight -/
def cw (s y : Int) : Int := if s = 0 then 16 else if s = 1 then y else 16 - y
theorem cw_r {s y : Int} (hy : 0 ≤ y ∧ y ≤ 16) : 0 ≤ cw s y ∧ cw s y ≤ 16 := by unfold cw; split <;> (try split) <;> omega
/-- what stands for made, and for asked, of a sheet with a row p -/
def St.mside (A : St) (s p sh : Int) : Int := sh * A.prod 0 p * cw (A.cd s) A.cm
def St.aside (A : St) (s p sh : Int) : Int := (16 - sh) * A.prod A.nq p * cw (A.cd s) A.ca
theorem mul3 {a b c : Int} (ha : 0 ≤ a ∧ a ≤ 16) (hb : 0 ≤ b ∧ b ≤ 16777216) (hc : 0 ≤ c ∧ c ≤ 16) : 0 ≤ a * b ∧ a * b ≤ 268435456 ∧ 0 ≤ a * b * c ∧ a * b * c ≤ 4294967296 := by
  have h1 := Int.mul_nonneg ha.1 hb.1
  have h2 := Int.mul_le_mul ha.2 hb.2 hb.1 (by decide)
  have h3 := Int.mul_nonneg h1 hc.1
  have h4 := Int.mul_le_mul h2 hc.2 hc.1 (by decide)
  refine ⟨h1, by omega, h3, by omega⟩
theorem St.Ok.mside {A : St} (O : A.Ok) {s p sh : Int} (hp : A.row p) (hs : 0 ≤ sh ∧ sh ≤ 16) : 0 ≤ sh * A.prod 0 p ∧ sh * A.prod 0 p ≤ 268435456 ∧ 0 ≤ A.mside s p sh ∧ A.mside s p sh ≤ 4294967296 := mul3 hs (O.prod hp 0) (cw_r O.cm)
theorem St.Ok.aside {A : St} (O : A.Ok) {s p sh : Int} (hp : A.row p) (hs : 0 ≤ sh ∧ sh ≤ 16) : 0 ≤ (16 - sh) * A.prod A.nq p ∧ (16 - sh) * A.prod A.nq p ≤ 268435456 ∧ 0 ≤ A.aside s p sh ∧ A.aside s p sh ≤ 4294967296 := mul3 (by omega) (O.prod hp _) (cw_r O.ca)
/-- only questions count: from the last question on all is the law's -/
theorem St.prd6 (A : St) (p : Int) (a b : Int) : ∀ n : Nat, (n : Int) ≤ a → (n : Int) ≤ b → A.prd a p n = A.prd b p n := by
  intro n
  induction n with
  | zero => intro _ _; rfl
  | succ n ih => intro h1 h2; unfold St.prd; rw [ih (by omega) (by omega), if_pos (by omega), if_pos (by omega)]
theorem St.Ok.prod6 {A : St} (O : A.Ok) (p : Int) : A.prod 6 p = A.prod A.nq p := by
  have h := O.nq
  exact A.prd6 p _ _ _ (by omega) (by omega)
theorem S56 {g : KG} {h : KH} {s l r : Int} {A : St} (S : SR g h s l r A) (O : A.Ok) {i p sh : Int} (hi : ins A i) (hp : A.row p) (hs : 0 ≤ sh ∧ sh ≤ 16) {d : Nat} {Q : Option KV → KG → KH → Prop} (hQ : Q (some (xL (A.mside i p sh))) g h) : Cl (d + 4) 56 [xR s, xI i, xI p, xI sh] g h Q := by
  have hn := O.ns
  have i0 := hi.1
  have i1 := hi.2
  have b := O.mside (s := i) hp hs
  rw [E56, ga S.k0, S.pl, ga S.L.k0]
  refine S21 S.L O hp ?_
  simp (disch := omega) only [B56_11, o1, List.cons_append, List.nil_append, S.k0, S.p8, S.pl, S.k22, S.l22, S.L.k0, S.L.cm, S.cd i hi, true_and, ga, w64_id]
  rw [S22 O.cm]
  have e : sh * A.prod 0 p * (if A.cd i = 0 then 16 else if A.cd i = 1 then A.cm else 16 - A.cm) = A.mside i p sh := rfl
  simp (disch := omega) only [B56_33, o1, List.cons_append, List.nil_append, e, w64_id]
  exact hQ
theorem S57 {g : KG} {h : KH} {s l r : Int} {A : St} (S : SR g h s l r A) (O : A.Ok) {i p sh : Int} (hi : ins A i) (hp : A.row p) (hs : 0 ≤ sh ∧ sh ≤ 16) {d : Nat} {Q : Option KV → KG → KH → Prop} (hQ : Q (some (xL (A.aside i p sh))) g h) : Cl (d + 4) 57 [xR s, xI i, xI p, xI sh] g h Q := by
  have hn := O.ns
  have i0 := hi.1
  have i1 := hi.2
  have b := O.aside (s := i) hp hs
  rw [E57, ga S.k0, S.pl, ga S.L.k0]
  refine S21 S.L O hp ?_
  rw [O.prod6]
  simp (disch := omega) only [B57_10, o1, List.cons_append, List.nil_append, S.k0, S.p8, S.pl, S.k22, S.l22, S.L.k0, S.L.ca, S.cd i hi, true_and, ga, w64_id, w32_id]
  rw [S22 O.ca]
  have e : (16 - sh) * A.prod A.nq p * (if A.cd i = 0 then 16 else if A.cd i = 1 then A.ca else 16 - A.ca) = A.aside i p sh := rfl
  simp (disch := omega) only [B57_41, o1, List.cons_append, List.nil_append, e, w64_id]
  exact hQ
