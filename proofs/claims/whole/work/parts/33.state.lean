/-! THE CLASS's state at s, its rules at r. -/
def stc (o : Int) : Int := if o = 1 then 10 else if o = 2 then 9 else if o = 3 then 8 else o - 3
def RK (g : KG) (h : KH) (r : Int) : Prop := (gK g r = 5) ∧ (gK g (r + 1) = 20) ∧ (gL g (r + 1) = 5) ∧ (gK g (r + 2) = 20) ∧ (gL g (r + 2) = 300) ∧ (h r 2 = r + 1) ∧ (h r 3 = r + 2)
theorem RK.k0 {g : KG} {h : KH} {r : Int} (z_ : RK g h r) : gK g r = 5 := z_.1
theorem RK.k1 {g : KG} {h : KH} {r : Int} (z_ : RK g h r) : gK g (r + 1) = 20 := z_.2.1
theorem RK.l1 {g : KG} {h : KH} {r : Int} (z_ : RK g h r) : gL g (r + 1) = 5 := z_.2.2.1
theorem RK.k2 {g : KG} {h : KH} {r : Int} (z_ : RK g h r) : gK g (r + 2) = 20 := z_.2.2.2.1
theorem RK.l2 {g : KG} {h : KH} {r : Int} (z_ : RK g h r) : gL g (r + 2) = 300 := z_.2.2.2.2.1
theorem RK.p2 {g : KG} {h : KH} {r : Int} (z_ : RK g h r) : h r 2 = r + 1 := z_.2.2.2.2.2.1
theorem RK.p3 {g : KG} {h : KH} {r : Int} (z_ : RK g h r) : h r 3 = r + 2 := z_.2.2.2.2.2.2
def RR (g : KG) (h : KH) (r : Int) (A : St) : Prop := (RK g h r) ∧ (h r 0 = A.nr) ∧ (h r 1 = A.rs A.nr) ∧ (∀ i, 0 ≤ i → i ≤ A.nr → h (r + 1) i = A.rs i) ∧ (∀ k, 0 ≤ k → k < A.rs A.nr → h (r + 2) k = A.nm k * 16 + stc (A.op k))
theorem RR.to_ {g : KG} {h : KH} {r : Int} {A : St} (z_ : RR g h r A) : RK g h r := z_.1
theorem RR.nr {g : KG} {h : KH} {r : Int} {A : St} (z_ : RR g h r A) : h r 0 = A.nr := z_.2.1
theorem RR.ln {g : KG} {h : KH} {r : Int} {A : St} (z_ : RR g h r A) : h r 1 = A.rs A.nr := z_.2.2.1
theorem RR.rs {g : KG} {h : KH} {r : Int} {A : St} (z_ : RR g h r A) : ∀ i, 0 ≤ i → i ≤ A.nr → h (r + 1) i = A.rs i := z_.2.2.2.1
theorem RR.cd {g : KG} {h : KH} {r : Int} {A : St} (z_ : RR g h r A) : ∀ k, 0 ≤ k → k < A.rs A.nr → h (r + 2) k = A.nm k * 16 + stc (A.op k) := z_.2.2.2.2
theorem RR.k0 {g : KG} {h : KH} {r : Int} {A : St} (z_ : RR g h r A) : gK g r = 5 := RK.k0 (RR.to_ z_)
theorem RR.k1 {g : KG} {h : KH} {r : Int} {A : St} (z_ : RR g h r A) : gK g (r + 1) = 20 := RK.k1 (RR.to_ z_)
theorem RR.l1 {g : KG} {h : KH} {r : Int} {A : St} (z_ : RR g h r A) : gL g (r + 1) = 5 := RK.l1 (RR.to_ z_)
theorem RR.k2 {g : KG} {h : KH} {r : Int} {A : St} (z_ : RR g h r A) : gK g (r + 2) = 20 := RK.k2 (RR.to_ z_)
theorem RR.l2 {g : KG} {h : KH} {r : Int} {A : St} (z_ : RR g h r A) : gL g (r + 2) = 300 := RK.l2 (RR.to_ z_)
theorem RR.p2 {g : KG} {h : KH} {r : Int} {A : St} (z_ : RR g h r A) : h r 2 = r + 1 := RK.p2 (RR.to_ z_)
theorem RR.p3 {g : KG} {h : KH} {r : Int} {A : St} (z_ : RR g h r A) : h r 3 = r + 2 := RK.p3 (RR.to_ z_)
def SK (g : KG) (h : KH) (s : Int) : Prop := (gK g s = 7) ∧ (gK g (s + 17) = 20) ∧ (gL g (s + 17) = 16) ∧ (gK g (s + 18) = 20) ∧ (gL g (s + 18) = 16) ∧ (gK g (s + 19) = 20) ∧ (gL g (s + 19) = 16) ∧ (gK g (s + 20) = 20) ∧ (gL g (s + 20) = 16) ∧ (gK g (s + 21) = 20) ∧ (gL g (s + 21) = 16) ∧ (gK g (s + 22) = 20) ∧ (gL g (s + 22) = 16) ∧ (gK g (s + 23) = 20) ∧ (gL g (s + 23) = 16) ∧ (gK g (s + 24) = 20) ∧ (gL g (s + 24) = 16) ∧ (h s 3 = s + 17) ∧ (h s 4 = s + 18) ∧ (h s 5 = s + 19) ∧ (h s 6 = s + 20) ∧ (h s 7 = s + 21) ∧ (h s 8 = s + 22) ∧ (h s 9 = s + 23) ∧ (h s 10 = s + 24)
theorem SK.k0 {g : KG} {h : KH} {s : Int} (z_ : SK g h s) : gK g s = 7 := z_.1
theorem SK.k17 {g : KG} {h : KH} {s : Int} (z_ : SK g h s) : gK g (s + 17) = 20 := z_.2.1
theorem SK.l17 {g : KG} {h : KH} {s : Int} (z_ : SK g h s) : gL g (s + 17) = 16 := z_.2.2.1
theorem SK.k18 {g : KG} {h : KH} {s : Int} (z_ : SK g h s) : gK g (s + 18) = 20 := z_.2.2.2.1
theorem SK.l18 {g : KG} {h : KH} {s : Int} (z_ : SK g h s) : gL g (s + 18) = 16 := z_.2.2.2.2.1
theorem SK.k19 {g : KG} {h : KH} {s : Int} (z_ : SK g h s) : gK g (s + 19) = 20 := z_.2.2.2.2.2.1
theorem SK.l19 {g : KG} {h : KH} {s : Int} (z_ : SK g h s) : gL g (s + 19) = 16 := z_.2.2.2.2.2.2.1
theorem SK.k20 {g : KG} {h : KH} {s : Int} (z_ : SK g h s) : gK g (s + 20) = 20 := z_.2.2.2.2.2.2.2.1
theorem SK.l20 {g : KG} {h : KH} {s : Int} (z_ : SK g h s) : gL g (s + 20) = 16 := z_.2.2.2.2.2.2.2.2.1
theorem SK.k21 {g : KG} {h : KH} {s : Int} (z_ : SK g h s) : gK g (s + 21) = 20 := z_.2.2.2.2.2.2.2.2.2.1
theorem SK.l21 {g : KG} {h : KH} {s : Int} (z_ : SK g h s) : gL g (s + 21) = 16 := z_.2.2.2.2.2.2.2.2.2.2.1
theorem SK.k22 {g : KG} {h : KH} {s : Int} (z_ : SK g h s) : gK g (s + 22) = 20 := z_.2.2.2.2.2.2.2.2.2.2.2.1
theorem SK.l22 {g : KG} {h : KH} {s : Int} (z_ : SK g h s) : gL g (s + 22) = 16 := z_.2.2.2.2.2.2.2.2.2.2.2.2.1
theorem SK.k23 {g : KG} {h : KH} {s : Int} (z_ : SK g h s) : gK g (s + 23) = 20 := z_.2.2.2.2.2.2.2.2.2.2.2.2.2.1
theorem SK.l23 {g : KG} {h : KH} {s : Int} (z_ : SK g h s) : gL g (s + 23) = 16 := z_.2.2.2.2.2.2.2.2.2.2.2.2.2.2.1
theorem SK.k24 {g : KG} {h : KH} {s : Int} (z_ : SK g h s) : gK g (s + 24) = 20 := z_.2.2.2.2.2.2.2.2.2.2.2.2.2.2.2.1
theorem SK.l24 {g : KG} {h : KH} {s : Int} (z_ : SK g h s) : gL g (s + 24) = 16 := z_.2.2.2.2.2.2.2.2.2.2.2.2.2.2.2.2.1
theorem SK.p3 {g : KG} {h : KH} {s : Int} (z_ : SK g h s) : h s 3 = s + 17 := z_.2.2.2.2.2.2.2.2.2.2.2.2.2.2.2.2.2.1
theorem SK.p4 {g : KG} {h : KH} {s : Int} (z_ : SK g h s) : h s 4 = s + 18 := z_.2.2.2.2.2.2.2.2.2.2.2.2.2.2.2.2.2.2.1
theorem SK.p5 {g : KG} {h : KH} {s : Int} (z_ : SK g h s) : h s 5 = s + 19 := z_.2.2.2.2.2.2.2.2.2.2.2.2.2.2.2.2.2.2.2.1
theorem SK.p6 {g : KG} {h : KH} {s : Int} (z_ : SK g h s) : h s 6 = s + 20 := z_.2.2.2.2.2.2.2.2.2.2.2.2.2.2.2.2.2.2.2.2.1
theorem SK.p7 {g : KG} {h : KH} {s : Int} (z_ : SK g h s) : h s 7 = s + 21 := z_.2.2.2.2.2.2.2.2.2.2.2.2.2.2.2.2.2.2.2.2.2.1
theorem SK.p8 {g : KG} {h : KH} {s : Int} (z_ : SK g h s) : h s 8 = s + 22 := z_.2.2.2.2.2.2.2.2.2.2.2.2.2.2.2.2.2.2.2.2.2.2.1
theorem SK.p9 {g : KG} {h : KH} {s : Int} (z_ : SK g h s) : h s 9 = s + 23 := z_.2.2.2.2.2.2.2.2.2.2.2.2.2.2.2.2.2.2.2.2.2.2.2.1
theorem SK.p10 {g : KG} {h : KH} {s : Int} (z_ : SK g h s) : h s 10 = s + 24 := z_.2.2.2.2.2.2.2.2.2.2.2.2.2.2.2.2.2.2.2.2.2.2.2.2
def SR (g : KG) (h : KH) (s l r : Int) (A : St) : Prop := (SK g h s) ∧ (h s 0 = l) ∧ (h s 1 = r) ∧ (LR g h l A) ∧ (RR g h r A) ∧ (h s 2 = A.ns) ∧ (∀ i, ins A i → h (s + 17) i = A.ask i) ∧ (∀ i, ins A i → h (s + 18) i = A.dr i) ∧ (∀ i, ins A i → h (s + 19) i = A.fr i) ∧ (∀ i, ins A i → h (s + 20) i = A.tt i) ∧ (∀ i, ins A i → h (s + 21) i = A.pa i) ∧ (∀ i, ins A i → h (s + 22) i = A.cd i) ∧ (∀ i, ins A i → h (s + 23) i = A.tr i) ∧ (∀ i, ins A i → A.tr i = 3 → h (s + 24) i = A.hf i)
theorem SR.to_ {g : KG} {h : KH} {s l r : Int} {A : St} (z_ : SR g h s l r A) : SK g h s := z_.1
theorem SR.pl {g : KG} {h : KH} {s l r : Int} {A : St} (z_ : SR g h s l r A) : h s 0 = l := z_.2.1
theorem SR.pr {g : KG} {h : KH} {s l r : Int} {A : St} (z_ : SR g h s l r A) : h s 1 = r := z_.2.2.1
theorem SR.L {g : KG} {h : KH} {s l r : Int} {A : St} (z_ : SR g h s l r A) : LR g h l A := z_.2.2.2.1
theorem SR.R {g : KG} {h : KH} {s l r : Int} {A : St} (z_ : SR g h s l r A) : RR g h r A := z_.2.2.2.2.1
theorem SR.ns {g : KG} {h : KH} {s l r : Int} {A : St} (z_ : SR g h s l r A) : h s 2 = A.ns := z_.2.2.2.2.2.1
theorem SR.ask {g : KG} {h : KH} {s l r : Int} {A : St} (z_ : SR g h s l r A) : ∀ i, ins A i → h (s + 17) i = A.ask i := z_.2.2.2.2.2.2.1
theorem SR.dr {g : KG} {h : KH} {s l r : Int} {A : St} (z_ : SR g h s l r A) : ∀ i, ins A i → h (s + 18) i = A.dr i := z_.2.2.2.2.2.2.2.1
theorem SR.fr {g : KG} {h : KH} {s l r : Int} {A : St} (z_ : SR g h s l r A) : ∀ i, ins A i → h (s + 19) i = A.fr i := z_.2.2.2.2.2.2.2.2.1
theorem SR.tt {g : KG} {h : KH} {s l r : Int} {A : St} (z_ : SR g h s l r A) : ∀ i, ins A i → h (s + 20) i = A.tt i := z_.2.2.2.2.2.2.2.2.2.1
theorem SR.pa {g : KG} {h : KH} {s l r : Int} {A : St} (z_ : SR g h s l r A) : ∀ i, ins A i → h (s + 21) i = A.pa i := z_.2.2.2.2.2.2.2.2.2.2.1
theorem SR.cd {g : KG} {h : KH} {s l r : Int} {A : St} (z_ : SR g h s l r A) : ∀ i, ins A i → h (s + 22) i = A.cd i := z_.2.2.2.2.2.2.2.2.2.2.2.1
theorem SR.tr {g : KG} {h : KH} {s l r : Int} {A : St} (z_ : SR g h s l r A) : ∀ i, ins A i → h (s + 23) i = A.tr i := z_.2.2.2.2.2.2.2.2.2.2.2.2.1
theorem SR.hf {g : KG} {h : KH} {s l r : Int} {A : St} (z_ : SR g h s l r A) : ∀ i, ins A i → A.tr i = 3 → h (s + 24) i = A.hf i := z_.2.2.2.2.2.2.2.2.2.2.2.2.2
theorem SR.k0 {g : KG} {h : KH} {s l r : Int} {A : St} (z_ : SR g h s l r A) : gK g s = 7 := SK.k0 (SR.to_ z_)
theorem SR.k17 {g : KG} {h : KH} {s l r : Int} {A : St} (z_ : SR g h s l r A) : gK g (s + 17) = 20 := SK.k17 (SR.to_ z_)
theorem SR.l17 {g : KG} {h : KH} {s l r : Int} {A : St} (z_ : SR g h s l r A) : gL g (s + 17) = 16 := SK.l17 (SR.to_ z_)
theorem SR.k18 {g : KG} {h : KH} {s l r : Int} {A : St} (z_ : SR g h s l r A) : gK g (s + 18) = 20 := SK.k18 (SR.to_ z_)
theorem SR.l18 {g : KG} {h : KH} {s l r : Int} {A : St} (z_ : SR g h s l r A) : gL g (s + 18) = 16 := SK.l18 (SR.to_ z_)
theorem SR.k19 {g : KG} {h : KH} {s l r : Int} {A : St} (z_ : SR g h s l r A) : gK g (s + 19) = 20 := SK.k19 (SR.to_ z_)
theorem SR.l19 {g : KG} {h : KH} {s l r : Int} {A : St} (z_ : SR g h s l r A) : gL g (s + 19) = 16 := SK.l19 (SR.to_ z_)
theorem SR.k20 {g : KG} {h : KH} {s l r : Int} {A : St} (z_ : SR g h s l r A) : gK g (s + 20) = 20 := SK.k20 (SR.to_ z_)
theorem SR.l20 {g : KG} {h : KH} {s l r : Int} {A : St} (z_ : SR g h s l r A) : gL g (s + 20) = 16 := SK.l20 (SR.to_ z_)
theorem SR.k21 {g : KG} {h : KH} {s l r : Int} {A : St} (z_ : SR g h s l r A) : gK g (s + 21) = 20 := SK.k21 (SR.to_ z_)
theorem SR.l21 {g : KG} {h : KH} {s l r : Int} {A : St} (z_ : SR g h s l r A) : gL g (s + 21) = 16 := SK.l21 (SR.to_ z_)
theorem SR.k22 {g : KG} {h : KH} {s l r : Int} {A : St} (z_ : SR g h s l r A) : gK g (s + 22) = 20 := SK.k22 (SR.to_ z_)
theorem SR.l22 {g : KG} {h : KH} {s l r : Int} {A : St} (z_ : SR g h s l r A) : gL g (s + 22) = 16 := SK.l22 (SR.to_ z_)
theorem SR.k23 {g : KG} {h : KH} {s l r : Int} {A : St} (z_ : SR g h s l r A) : gK g (s + 23) = 20 := SK.k23 (SR.to_ z_)
theorem SR.l23 {g : KG} {h : KH} {s l r : Int} {A : St} (z_ : SR g h s l r A) : gL g (s + 23) = 16 := SK.l23 (SR.to_ z_)
theorem SR.k24 {g : KG} {h : KH} {s l r : Int} {A : St} (z_ : SR g h s l r A) : gK g (s + 24) = 20 := SK.k24 (SR.to_ z_)
theorem SR.l24 {g : KG} {h : KH} {s l r : Int} {A : St} (z_ : SR g h s l r A) : gL g (s + 24) = 16 := SK.l24 (SR.to_ z_)
theorem SR.p3 {g : KG} {h : KH} {s l r : Int} {A : St} (z_ : SR g h s l r A) : h s 3 = s + 17 := SK.p3 (SR.to_ z_)
theorem SR.p4 {g : KG} {h : KH} {s l r : Int} {A : St} (z_ : SR g h s l r A) : h s 4 = s + 18 := SK.p4 (SR.to_ z_)
theorem SR.p5 {g : KG} {h : KH} {s l r : Int} {A : St} (z_ : SR g h s l r A) : h s 5 = s + 19 := SK.p5 (SR.to_ z_)
theorem SR.p6 {g : KG} {h : KH} {s l r : Int} {A : St} (z_ : SR g h s l r A) : h s 6 = s + 20 := SK.p6 (SR.to_ z_)
theorem SR.p7 {g : KG} {h : KH} {s l r : Int} {A : St} (z_ : SR g h s l r A) : h s 7 = s + 21 := SK.p7 (SR.to_ z_)
theorem SR.p8 {g : KG} {h : KH} {s l r : Int} {A : St} (z_ : SR g h s l r A) : h s 8 = s + 22 := SK.p8 (SR.to_ z_)
theorem SR.p9 {g : KG} {h : KH} {s l r : Int} {A : St} (z_ : SR g h s l r A) : h s 9 = s + 23 := SK.p9 (SR.to_ z_)
theorem SR.p10 {g : KG} {h : KH} {s l r : Int} {A : St} (z_ : SR g h s l r A) : h s 10 = s + 24 := SK.p10 (SR.to_ z_)
def iabs (x : Int) : Int := if 0 ≤ x then x else 0 - x
/-- steps and minutes between two doors -/
def St.steps (A : St) (a b : Int) : Int := iabs (A.dx a - A.dx b) + iabs (A.dy a - A.dy b)
def St.mins (A : St) (a b : Int) : Int := (A.steps a b * A.wk + 9) / 10
theorem St.Ok.steps {A : St} (O : A.Ok) {a b : Int} (ha : 0 ≤ a ∧ a < A.nd) (hb : 0 ≤ b ∧ b < A.nd) : 0 ≤ A.steps a b ∧ A.steps a b ≤ 198 := by
  have h1 := O.dx a ha.1 ha.2
  have h2 := O.dx b hb.1 hb.2
  have h3 := O.dy a ha.1 ha.2
  have h4 := O.dy b hb.1 hb.2
  unfold St.steps iabs
  split <;> split <;> omega
theorem St.Ok.walkm {A : St} (O : A.Ok) {a b : Int} (ha : 0 ≤ a ∧ a < A.nd) (hb : 0 ≤ b ∧ b < A.nd) : 0 ≤ A.steps a b * A.wk ∧ A.steps a b * A.wk ≤ 19602 := by
  have h1 := O.steps ha hb
  have h2 := O.wk
  refine ⟨Int.mul_nonneg h1.1 (by omega), ?_⟩
  have := Int.mul_le_mul h1.2 h2.2 (by omega) (by omega : (0 : Int) ≤ 198)
  omega
theorem St.Ok.mins {A : St} (O : A.Ok) {a b : Int} (ha : 0 ≤ a ∧ a < A.nd) (hb : 0 ≤ b ∧ b < A.nd) : 0 ≤ A.mins a b ∧ A.mins a b ≤ 1961 := by
  have h1 := O.walkm ha hb
  unfold St.mins
  omega
theorem S23 {g : KG} {h : KH} {l : Int} {A : St} (L : LR g h l A) (O : A.Ok) {a b : Int} (ha : 0 ≤ a ∧ a < A.nd) (hb : 0 ≤ b ∧ b < A.nd) {d : Nat} {Q : Option KV → KG → KH → Prop} (hQ : Q (some (xI (A.steps a b))) g h) : Cl (d + 1) 23 [xR l, xI a, xI b] g h Q := by
  have hn := O.nd
  have h1 := O.dx a ha.1 ha.2
  have h2 := O.dx b hb.1 hb.2
  have h3 := O.dy a ha.1 ha.2
  have h4 := O.dy b hb.1 hb.2
  simp (disch := omega) only [E23, L.k0, L.p6, L.p7, L.k11, L.l11, L.k12, L.l12, true_and, ga, L.dx a ha.1 ha.2, L.dx b hb.1 hb.2, L.dy a ha.1 ha.2, L.dy b hb.1 hb.2, w32_id]
  exact hQ
theorem S24 {g : KG} {h : KH} {l : Int} {A : St} (L : LR g h l A) (O : A.Ok) {a b : Int} (ha : 0 ≤ a ∧ a < A.nd) (hb : 0 ≤ b ∧ b < A.nd) {d : Nat} {Q : Option KV → KG → KH → Prop} (hQ : Q (some (xI (A.mins a b))) g h) : Cl (d + 2) 24 [xR l, xI a, xI b] g h Q := by
  have h1 := O.walkm ha hb
  rw [E24, ga L.k0]
  refine S23 L O ha hb ?_
  simp (disch := omega) only [E24, B24_6, L.k0, L.wk, true_and, ga, o1, List.cons_append, List.nil_append, w32_id]
  have e : w32 (Int.tdiv (A.steps a b * A.wk + 9) 10) = A.mins a b := by
    rw [Int.tdiv_eq_ediv_of_nonneg (by omega)]
    unfold St.mins
    exact w32_id (by omega) (by omega)
  rw [e]
  exact hQ
/-- a card's weight -/
def cw (s y : Int) : Int := if s = 0 then 16 else if s = 1 then y else 16 - y
theorem cw_r {s y : Int} (hy : 0 ≤ y ∧ y ≤ 16) : 0 ≤ cw s y ∧ cw s y ≤ 16 := by unfold cw; split <;> (try split) <;> omega
/-- what stands for made, and for asked, of a sheet with a row p -/
def St.mside (A : St) (s p sh : Int) : Int := sh * A.prod 0 p * cw (A.cd s) A.cm
def St.aside (A : St) (s p sh : Int) : Int := (16 - sh) * A.prod A.nq p * cw (A.cd s) A.ca
theorem mul3 {a b c : Int} (ha : 0 ≤ a ∧ a ≤ 16) (hb : 0 ≤ b ∧ b ≤ 16777216) (hc : 0 ≤ c ∧ c ≤ 16) : 0 ≤ a * b ∧ a * b ≤ 268435456 ∧ 0 ≤ a * b * c ∧ a * b * c ≤ 4294967296 := by
  have h1 := Int.mul_nonneg ha.1 hb.1
  have h2 := Int.mul_le_mul ha.2 hb.2 hb.1 (by decide)
  have h3 := Int.mul_nonneg h1 hc.1
  have h4 := Int.mul_le_mul h2 hc.2 hc.1 (by decide)
  refine ⟨h1, by omega, h3, by omega⟩
theorem St.Ok.mside {A : St} (O : A.Ok) {s p sh : Int} (hp : A.row p) (hs : 0 ≤ sh ∧ sh ≤ 16) : 0 ≤ sh * A.prod 0 p ∧ sh * A.prod 0 p ≤ 268435456 ∧ 0 ≤ A.mside s p sh ∧ A.mside s p sh ≤ 4294967296 := mul3 hs (O.prod hp 0) (cw_r O.cm)
theorem St.Ok.aside {A : St} (O : A.Ok) {s p sh : Int} (hp : A.row p) (hs : 0 ≤ sh ∧ sh ≤ 16) : 0 ≤ (16 - sh) * A.prod A.nq p ∧ (16 - sh) * A.prod A.nq p ≤ 268435456 ∧ 0 ≤ A.aside s p sh ∧ A.aside s p sh ≤ 4294967296 := mul3 (by omega) (O.prod hp _) (cw_r O.ca)
/-- only questions count: from the last question on all is the law's -/
theorem St.prd6 (A : St) (p : Int) (a b : Int) : ∀ n : Nat, (n : Int) ≤ a → (n : Int) ≤ b → A.prd a p n = A.prd b p n := by
  intro n
  induction n with
  | zero => intro _ _; rfl
  | succ n ih => intro h1 h2; unfold St.prd; rw [ih (by omega) (by omega), if_pos (by omega), if_pos (by omega)]
theorem St.Ok.prod6 {A : St} (O : A.Ok) (p : Int) : A.prod 6 p = A.prod A.nq p := by
  have h := O.nq
  exact A.prd6 p _ _ _ (by omega) (by omega)
theorem S56 {g : KG} {h : KH} {s l r : Int} {A : St} (S : SR g h s l r A) (O : A.Ok) {i p sh : Int} (hi : ins A i) (hp : A.row p) (hs : 0 ≤ sh ∧ sh ≤ 16) {d : Nat} {Q : Option KV → KG → KH → Prop} (hQ : Q (some (xL (A.mside i p sh))) g h) : Cl (d + 4) 56 [xR s, xI i, xI p, xI sh] g h Q := by
  have hn := O.ns
  have i0 := hi.1
  have i1 := hi.2
  have b := O.mside (s := i) hp hs
  rw [E56, ga S.k0, S.pl, ga S.L.k0]
  refine S21 S.L O hp ?_
  simp (disch := omega) only [B56_11, o1, List.cons_append, List.nil_append, S.k0, S.p8, S.pl, S.k22, S.l22, S.L.k0, S.L.cm, S.cd i hi, true_and, ga, w64_id]
  rw [S22 O.cm]
  have e : sh * A.prod 0 p * (if A.cd i = 0 then 16 else if A.cd i = 1 then A.cm else 16 - A.cm) = A.mside i p sh := rfl
  simp (disch := omega) only [B56_33, o1, List.cons_append, List.nil_append, e, w64_id]
  exact hQ
theorem S57 {g : KG} {h : KH} {s l r : Int} {A : St} (S : SR g h s l r A) (O : A.Ok) {i p sh : Int} (hi : ins A i) (hp : A.row p) (hs : 0 ≤ sh ∧ sh ≤ 16) {d : Nat} {Q : Option KV → KG → KH → Prop} (hQ : Q (some (xL (A.aside i p sh))) g h) : Cl (d + 4) 57 [xR s, xI i, xI p, xI sh] g h Q := by
  have hn := O.ns
  have i0 := hi.1
  have i1 := hi.2
  have b := O.aside (s := i) hp hs
  rw [E57, ga S.k0, S.pl, ga S.L.k0]
  refine S21 S.L O hp ?_
  rw [O.prod6]
  simp (disch := omega) only [B57_10, o1, List.cons_append, List.nil_append, S.k0, S.p8, S.pl, S.k22, S.l22, S.L.k0, S.L.ca, S.cd i hi, true_and, ga, w64_id, w32_id]
  rw [S22 O.ca]
  have e : (16 - sh) * A.prod A.nq p * (if A.cd i = 0 then 16 else if A.cd i = 1 then A.ca else 16 - A.ca) = A.aside i p sh := rfl
  simp (disch := omega) only [B57_41, o1, List.cons_append, List.nil_append, e, w64_id]
  exact hQ
