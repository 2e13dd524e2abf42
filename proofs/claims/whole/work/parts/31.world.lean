/-! THE WORLD that class and model both stand for. -/
abbrev St : Type := (Int) × (Int) × (Int) × (Int) × (Int) × (Int) × (Int) × (Int → Int) × (Int → Int → Int) × (Int → Int → Int → Int → Int) × (Int → Int) × (Int → Int) × (Int → Int) × (Int → Int) × (Int → Int) × (Int → Int) × (Int → Int) × (Int → Int) × (Int → Int) × (Int → Int) × (Int → Int) × (Int → Int) × (Int → Int) × (Int → Int → Int)
def St.nq (A : St) : Int := A.1
def St.nd (A : St) : Int := A.2.1
def St.ns (A : St) : Int := A.2.2.1
def St.nr (A : St) : Int := A.2.2.2.1
def St.wk (A : St) : Int := A.2.2.2.2.1
def St.ca (A : St) : Int := A.2.2.2.2.2.1
def St.cm (A : St) : Int := A.2.2.2.2.2.2.1
def St.ch (A : St) : Int → Int := A.2.2.2.2.2.2.2.1
def St.gb (A : St) : Int → Int → Int := A.2.2.2.2.2.2.2.2.1
def St.wt (A : St) : Int → Int → Int → Int → Int := A.2.2.2.2.2.2.2.2.2.1
def St.dx (A : St) : Int → Int := A.2.2.2.2.2.2.2.2.2.2.1
def St.dy (A : St) : Int → Int := A.2.2.2.2.2.2.2.2.2.2.2.1
def St.ask (A : St) : Int → Int := A.2.2.2.2.2.2.2.2.2.2.2.2.1
def St.dr (A : St) : Int → Int := A.2.2.2.2.2.2.2.2.2.2.2.2.2.1
def St.fr (A : St) : Int → Int := A.2.2.2.2.2.2.2.2.2.2.2.2.2.2.1
def St.tt (A : St) : Int → Int := A.2.2.2.2.2.2.2.2.2.2.2.2.2.2.2.1
def St.pa (A : St) : Int → Int := A.2.2.2.2.2.2.2.2.2.2.2.2.2.2.2.2.1
def St.cd (A : St) : Int → Int := A.2.2.2.2.2.2.2.2.2.2.2.2.2.2.2.2.2.1
def St.tr (A : St) : Int → Int := A.2.2.2.2.2.2.2.2.2.2.2.2.2.2.2.2.2.2.1
def St.hf (A : St) : Int → Int := A.2.2.2.2.2.2.2.2.2.2.2.2.2.2.2.2.2.2.2.1
def St.rs (A : St) : Int → Int := A.2.2.2.2.2.2.2.2.2.2.2.2.2.2.2.2.2.2.2.2.1
def St.op (A : St) : Int → Int := A.2.2.2.2.2.2.2.2.2.2.2.2.2.2.2.2.2.2.2.2.2.1
def St.nm (A : St) : Int → Int := A.2.2.2.2.2.2.2.2.2.2.2.2.2.2.2.2.2.2.2.2.2.2.1
def St.dp (A : St) : Int → Int → Int := A.2.2.2.2.2.2.2.2.2.2.2.2.2.2.2.2.2.2.2.2.2.2.2
def St.mk_ (nq_ : Int) (nd_ : Int) (ns_ : Int) (nr_ : Int) (wk_ : Int) (ca_ : Int) (cm_ : Int) (ch_ : Int → Int) (gb_ : Int → Int → Int) (wt_ : Int → Int → Int → Int → Int) (dx_ : Int → Int) (dy_ : Int → Int) (ask_ : Int → Int) (dr_ : Int → Int) (fr_ : Int → Int) (tt_ : Int → Int) (pa_ : Int → Int) (cd_ : Int → Int) (tr_ : Int → Int) (hf_ : Int → Int) (rs_ : Int → Int) (op_ : Int → Int) (nm_ : Int → Int) (dp_ : Int → Int → Int) : St := (nq_, nd_, ns_, nr_, wk_, ca_, cm_, ch_, gb_, wt_, dx_, dy_, ask_, dr_, fr_, tt_, pa_, cd_, tr_, hf_, rs_, op_, nm_, dp_)
/-- how many rows a question's table has -/
def St.rows (A : St) (m q : Int) : Int := if A.gb m q = -1 then 1 else A.ch (A.gb m q)
def inq (A : St) (q : Int) : Prop := 0 ≤ q ∧ q < A.nq
def ins (A : St) (s : Int) : Prop := 0 ≤ s ∧ s < A.ns
def bit1 (m : Int) : Prop := m = 0 ∨ m = 1
/-- a packed row that answers may be -/
def St.row (A : St) (p : Int) : Prop := 0 ≤ p ∧ p < 4096 ∧ (∀ q, inq A q → dg p q < A.ch q) ∧ ∀ q, A.nq ≤ q → q < 6 → dg p q = 0
def St.Ok (A : St) : Prop := (0 ≤ A.nq ∧ A.nq ≤ 6) ∧ (0 ≤ A.nd ∧ A.nd ≤ 16) ∧ (0 ≤ A.ns ∧ A.ns ≤ 16) ∧ (0 ≤ A.nr ∧ A.nr ≤ 4) ∧ (1 ≤ A.wk ∧ A.wk ≤ 99) ∧ (0 ≤ A.ca ∧ A.ca ≤ 16) ∧ (0 ≤ A.cm ∧ A.cm ≤ 16) ∧ (∀ q, inq A q → 2 ≤ A.ch q ∧ A.ch q ≤ 4) ∧ (∀ m q, bit1 m → inq A q → A.gb m q = -1 ∨ (0 ≤ A.gb m q ∧ A.gb m q < q)) ∧ (∀ m q r a, bit1 m → inq A q → 0 ≤ r → r < A.rows m q → 0 ≤ a → a < A.ch q → 0 ≤ A.wt m q r a ∧ A.wt m q r a ≤ 16) ∧ (∀ m q r, bit1 m → inq A q → 0 ≤ r → r < A.rows m q → A.wt m q r 0 + A.wt m q r 1 + (if 2 < A.ch q then A.wt m q r 2 else 0) + (if 3 < A.ch q then A.wt m q r 3 else 0) = 16) ∧ (∀ i, 0 ≤ i → i < A.nd → 0 ≤ A.dx i ∧ A.dx i ≤ 99) ∧ (∀ i, 0 ≤ i → i < A.nd → 0 ≤ A.dy i ∧ A.dy i ≤ 99) ∧ (∀ s, ins A s → 0 ≤ A.ask s ∧ A.ask s ≤ 3) ∧ (∀ s, ins A s → 0 ≤ A.dr s ∧ A.dr s < A.nd) ∧ (∀ s, ins A s → 0 ≤ A.fr s ∧ A.fr s < A.tt s) ∧ (∀ s, ins A s → A.tt s ≤ 1439) ∧ (∀ s, ins A s → A.row (A.pa s)) ∧ (∀ s, ins A s → 0 ≤ A.cd s ∧ A.cd s ≤ 2) ∧ (∀ s, ins A s → 0 ≤ A.tr s ∧ A.tr s ≤ 3) ∧ (∀ s, ins A s → A.tr s = 3 → 0 ≤ A.hf s ∧ A.hf s ≤ 6) ∧ (A.rs 0 = 0) ∧ (∀ r, 0 ≤ r → r < A.nr → A.rs r ≤ A.rs (r + 1)) ∧ (A.rs A.nr ≤ 200) ∧ (∀ k, 0 ≤ k → k < A.rs A.nr → 1 ≤ A.op k ∧ A.op k ≤ 10 ∧ 0 ≤ A.nm k ∧ A.nm k ≤ 9999) ∧ (∀ r, 0 ≤ r → r < A.nr → A.dp r (A.rs r) = 0 ∧ A.dp r (A.rs (r + 1)) = 1 ∧ ∀ k, A.rs r ≤ k → k < A.rs (r + 1) → 0 ≤ A.dp r k ∧ A.dp r k ≤ 40 ∧ (3 < A.op k → A.dp r (k + 1) = A.dp r k + 1) ∧ (A.op k = 3 → 1 ≤ A.dp r k ∧ A.dp r (k + 1) = A.dp r k) ∧ (A.op k < 3 → 2 ≤ A.dp r k ∧ A.dp r (k + 1) = A.dp r k - 1))
theorem St.Ok.nq {A : St} (z_ : St.Ok A) : 0 ≤ A.nq ∧ A.nq ≤ 6 := z_.1
theorem St.Ok.nd {A : St} (z_ : St.Ok A) : 0 ≤ A.nd ∧ A.nd ≤ 16 := z_.2.1
theorem St.Ok.ns {A : St} (z_ : St.Ok A) : 0 ≤ A.ns ∧ A.ns ≤ 16 := z_.2.2.1
theorem St.Ok.nr {A : St} (z_ : St.Ok A) : 0 ≤ A.nr ∧ A.nr ≤ 4 := z_.2.2.2.1
theorem St.Ok.wk {A : St} (z_ : St.Ok A) : 1 ≤ A.wk ∧ A.wk ≤ 99 := z_.2.2.2.2.1
theorem St.Ok.ca {A : St} (z_ : St.Ok A) : 0 ≤ A.ca ∧ A.ca ≤ 16 := z_.2.2.2.2.2.1
theorem St.Ok.cm {A : St} (z_ : St.Ok A) : 0 ≤ A.cm ∧ A.cm ≤ 16 := z_.2.2.2.2.2.2.1
theorem St.Ok.ch {A : St} (z_ : St.Ok A) : ∀ q, inq A q → 2 ≤ A.ch q ∧ A.ch q ≤ 4 := z_.2.2.2.2.2.2.2.1
theorem St.Ok.gb {A : St} (z_ : St.Ok A) : ∀ m q, bit1 m → inq A q → A.gb m q = -1 ∨ (0 ≤ A.gb m q ∧ A.gb m q < q) := z_.2.2.2.2.2.2.2.2.1
theorem St.Ok.wt {A : St} (z_ : St.Ok A) : ∀ m q r a, bit1 m → inq A q → 0 ≤ r → r < A.rows m q → 0 ≤ a → a < A.ch q → 0 ≤ A.wt m q r a ∧ A.wt m q r a ≤ 16 := z_.2.2.2.2.2.2.2.2.2.1
theorem St.Ok.ws {A : St} (z_ : St.Ok A) : ∀ m q r, bit1 m → inq A q → 0 ≤ r → r < A.rows m q → A.wt m q r 0 + A.wt m q r 1 + (if 2 < A.ch q then A.wt m q r 2 else 0) + (if 3 < A.ch q then A.wt m q r 3 else 0) = 16 := z_.2.2.2.2.2.2.2.2.2.2.1
theorem St.Ok.dx {A : St} (z_ : St.Ok A) : ∀ i, 0 ≤ i → i < A.nd → 0 ≤ A.dx i ∧ A.dx i ≤ 99 := z_.2.2.2.2.2.2.2.2.2.2.2.1
theorem St.Ok.dy {A : St} (z_ : St.Ok A) : ∀ i, 0 ≤ i → i < A.nd → 0 ≤ A.dy i ∧ A.dy i ≤ 99 := z_.2.2.2.2.2.2.2.2.2.2.2.2.1
theorem St.Ok.ask {A : St} (z_ : St.Ok A) : ∀ s, ins A s → 0 ≤ A.ask s ∧ A.ask s ≤ 3 := z_.2.2.2.2.2.2.2.2.2.2.2.2.2.1
theorem St.Ok.dr {A : St} (z_ : St.Ok A) : ∀ s, ins A s → 0 ≤ A.dr s ∧ A.dr s < A.nd := z_.2.2.2.2.2.2.2.2.2.2.2.2.2.2.1
theorem St.Ok.fr {A : St} (z_ : St.Ok A) : ∀ s, ins A s → 0 ≤ A.fr s ∧ A.fr s < A.tt s := z_.2.2.2.2.2.2.2.2.2.2.2.2.2.2.2.1
theorem St.Ok.tt {A : St} (z_ : St.Ok A) : ∀ s, ins A s → A.tt s ≤ 1439 := z_.2.2.2.2.2.2.2.2.2.2.2.2.2.2.2.2.1
theorem St.Ok.pa {A : St} (z_ : St.Ok A) : ∀ s, ins A s → A.row (A.pa s) := z_.2.2.2.2.2.2.2.2.2.2.2.2.2.2.2.2.2.1
theorem St.Ok.cd {A : St} (z_ : St.Ok A) : ∀ s, ins A s → 0 ≤ A.cd s ∧ A.cd s ≤ 2 := z_.2.2.2.2.2.2.2.2.2.2.2.2.2.2.2.2.2.2.1
theorem St.Ok.tr {A : St} (z_ : St.Ok A) : ∀ s, ins A s → 0 ≤ A.tr s ∧ A.tr s ≤ 3 := z_.2.2.2.2.2.2.2.2.2.2.2.2.2.2.2.2.2.2.2.1
theorem St.Ok.hf {A : St} (z_ : St.Ok A) : ∀ s, ins A s → A.tr s = 3 → 0 ≤ A.hf s ∧ A.hf s ≤ 6 := z_.2.2.2.2.2.2.2.2.2.2.2.2.2.2.2.2.2.2.2.2.1
theorem St.Ok.rs0 {A : St} (z_ : St.Ok A) : A.rs 0 = 0 := z_.2.2.2.2.2.2.2.2.2.2.2.2.2.2.2.2.2.2.2.2.2.1
theorem St.Ok.rs {A : St} (z_ : St.Ok A) : ∀ r, 0 ≤ r → r < A.nr → A.rs r ≤ A.rs (r + 1) := z_.2.2.2.2.2.2.2.2.2.2.2.2.2.2.2.2.2.2.2.2.2.2.1
theorem St.Ok.rsm {A : St} (z_ : St.Ok A) : A.rs A.nr ≤ 200 := z_.2.2.2.2.2.2.2.2.2.2.2.2.2.2.2.2.2.2.2.2.2.2.2.1
theorem St.Ok.op {A : St} (z_ : St.Ok A) : ∀ k, 0 ≤ k → k < A.rs A.nr → 1 ≤ A.op k ∧ A.op k ≤ 10 ∧ 0 ≤ A.nm k ∧ A.nm k ≤ 9999 := z_.2.2.2.2.2.2.2.2.2.2.2.2.2.2.2.2.2.2.2.2.2.2.2.2.1
theorem St.Ok.dp {A : St} (z_ : St.Ok A) : ∀ r, 0 ≤ r → r < A.nr → A.dp r (A.rs r) = 0 ∧ A.dp r (A.rs (r + 1)) = 1 ∧ ∀ k, A.rs r ≤ k → k < A.rs (r + 1) → 0 ≤ A.dp r k ∧ A.dp r k ≤ 40 ∧ (3 < A.op k → A.dp r (k + 1) = A.dp r k + 1) ∧ (A.op k = 3 → 1 ≤ A.dp r k ∧ A.dp r (k + 1) = A.dp r k) ∧ (A.op k < 3 → 2 ≤ A.dp r k ∧ A.dp r (k + 1) = A.dp r k - 1) := z_.2.2.2.2.2.2.2.2.2.2.2.2.2.2.2.2.2.2.2.2.2.2.2.2.2
/-! the class's objects: a table at t, a land at l -/
def TK (g : KG) (h : KH) (t : Int) : Prop := (gK g t = 8) ∧ (gK g (t + 1) = 20) ∧ (gL g (t + 1) = 6) ∧ (gK g (t + 2) = 23) ∧ (gL g (t + 2) = 6) ∧ (gK g (t + 3) = 20) ∧ (gL g (t + 3) = 96) ∧ (h t 0 = t + 1) ∧ (h t 1 = t + 2) ∧ (h t 2 = t + 3)
theorem TK.k0 {g : KG} {h : KH} {t : Int} (z_ : TK g h t) : gK g t = 8 := z_.1
theorem TK.k1 {g : KG} {h : KH} {t : Int} (z_ : TK g h t) : gK g (t + 1) = 20 := z_.2.1
theorem TK.l1 {g : KG} {h : KH} {t : Int} (z_ : TK g h t) : gL g (t + 1) = 6 := z_.2.2.1
theorem TK.k2 {g : KG} {h : KH} {t : Int} (z_ : TK g h t) : gK g (t + 2) = 23 := z_.2.2.2.1
theorem TK.l2 {g : KG} {h : KH} {t : Int} (z_ : TK g h t) : gL g (t + 2) = 6 := z_.2.2.2.2.1
theorem TK.k3 {g : KG} {h : KH} {t : Int} (z_ : TK g h t) : gK g (t + 3) = 20 := z_.2.2.2.2.2.1
theorem TK.l3 {g : KG} {h : KH} {t : Int} (z_ : TK g h t) : gL g (t + 3) = 96 := z_.2.2.2.2.2.2.1
theorem TK.p0 {g : KG} {h : KH} {t : Int} (z_ : TK g h t) : h t 0 = t + 1 := z_.2.2.2.2.2.2.2.1
theorem TK.p1 {g : KG} {h : KH} {t : Int} (z_ : TK g h t) : h t 1 = t + 2 := z_.2.2.2.2.2.2.2.2.1
theorem TK.p2 {g : KG} {h : KH} {t : Int} (z_ : TK g h t) : h t 2 = t + 3 := z_.2.2.2.2.2.2.2.2.2
def TR (g : KG) (h : KH) (t : Int) (A : St) (m : Int) : Prop := (TK g h t) ∧ (∀ q, inq A q → h (t + 1) q = A.gb m q) ∧ (∀ q r a, inq A q → 0 ≤ r → r < A.rows m q → 0 ≤ a → a < A.ch q → h (t + 3) (16 * q + 4 * r + a) = A.wt m q r a)
theorem TR.to_ {g : KG} {h : KH} {t : Int} {A : St} {m : Int} (z_ : TR g h t A m) : TK g h t := z_.1
theorem TR.b {g : KG} {h : KH} {t : Int} {A : St} {m : Int} (z_ : TR g h t A m) : ∀ q, inq A q → h (t + 1) q = A.gb m q := z_.2.1
theorem TR.w {g : KG} {h : KH} {t : Int} {A : St} {m : Int} (z_ : TR g h t A m) : ∀ q r a, inq A q → 0 ≤ r → r < A.rows m q → 0 ≤ a → a < A.ch q → h (t + 3) (16 * q + 4 * r + a) = A.wt m q r a := z_.2.2
theorem TR.k0 {g : KG} {h : KH} {t : Int} {A : St} {m : Int} (z_ : TR g h t A m) : gK g t = 8 := TK.k0 (TR.to_ z_)
theorem TR.k1 {g : KG} {h : KH} {t : Int} {A : St} {m : Int} (z_ : TR g h t A m) : gK g (t + 1) = 20 := TK.k1 (TR.to_ z_)
theorem TR.l1 {g : KG} {h : KH} {t : Int} {A : St} {m : Int} (z_ : TR g h t A m) : gL g (t + 1) = 6 := TK.l1 (TR.to_ z_)
theorem TR.k2 {g : KG} {h : KH} {t : Int} {A : St} {m : Int} (z_ : TR g h t A m) : gK g (t + 2) = 23 := TK.k2 (TR.to_ z_)
theorem TR.l2 {g : KG} {h : KH} {t : Int} {A : St} {m : Int} (z_ : TR g h t A m) : gL g (t + 2) = 6 := TK.l2 (TR.to_ z_)
theorem TR.k3 {g : KG} {h : KH} {t : Int} {A : St} {m : Int} (z_ : TR g h t A m) : gK g (t + 3) = 20 := TK.k3 (TR.to_ z_)
theorem TR.l3 {g : KG} {h : KH} {t : Int} {A : St} {m : Int} (z_ : TR g h t A m) : gL g (t + 3) = 96 := TK.l3 (TR.to_ z_)
theorem TR.p0 {g : KG} {h : KH} {t : Int} {A : St} {m : Int} (z_ : TR g h t A m) : h t 0 = t + 1 := TK.p0 (TR.to_ z_)
theorem TR.p1 {g : KG} {h : KH} {t : Int} {A : St} {m : Int} (z_ : TR g h t A m) : h t 1 = t + 2 := TK.p1 (TR.to_ z_)
theorem TR.p2 {g : KG} {h : KH} {t : Int} {A : St} {m : Int} (z_ : TR g h t A m) : h t 2 = t + 3 := TK.p2 (TR.to_ z_)
def LK (g : KG) (h : KH) (l : Int) : Prop := (gK g l = 3) ∧ (gK g (l + 1) = 21) ∧ (gL g (l + 1) = 6) ∧ (gK g (l + 2) = 20) ∧ (gL g (l + 2) = 6) ∧ (gK g (l + 11) = 20) ∧ (gL g (l + 11) = 16) ∧ (gK g (l + 12) = 20) ∧ (gL g (l + 12) = 16) ∧ (h l 1 = l + 1) ∧ (h l 2 = l + 2) ∧ (h l 3 = l + 3) ∧ (h l 4 = l + 7) ∧ (h l 6 = l + 11) ∧ (h l 7 = l + 12)
theorem LK.k0 {g : KG} {h : KH} {l : Int} (z_ : LK g h l) : gK g l = 3 := z_.1
theorem LK.k1 {g : KG} {h : KH} {l : Int} (z_ : LK g h l) : gK g (l + 1) = 21 := z_.2.1
theorem LK.l1 {g : KG} {h : KH} {l : Int} (z_ : LK g h l) : gL g (l + 1) = 6 := z_.2.2.1
theorem LK.k2 {g : KG} {h : KH} {l : Int} (z_ : LK g h l) : gK g (l + 2) = 20 := z_.2.2.2.1
theorem LK.l2 {g : KG} {h : KH} {l : Int} (z_ : LK g h l) : gL g (l + 2) = 6 := z_.2.2.2.2.1
theorem LK.k11 {g : KG} {h : KH} {l : Int} (z_ : LK g h l) : gK g (l + 11) = 20 := z_.2.2.2.2.2.1
theorem LK.l11 {g : KG} {h : KH} {l : Int} (z_ : LK g h l) : gL g (l + 11) = 16 := z_.2.2.2.2.2.2.1
theorem LK.k12 {g : KG} {h : KH} {l : Int} (z_ : LK g h l) : gK g (l + 12) = 20 := z_.2.2.2.2.2.2.2.1
theorem LK.l12 {g : KG} {h : KH} {l : Int} (z_ : LK g h l) : gL g (l + 12) = 16 := z_.2.2.2.2.2.2.2.2.1
theorem LK.p1 {g : KG} {h : KH} {l : Int} (z_ : LK g h l) : h l 1 = l + 1 := z_.2.2.2.2.2.2.2.2.2.1
theorem LK.p2 {g : KG} {h : KH} {l : Int} (z_ : LK g h l) : h l 2 = l + 2 := z_.2.2.2.2.2.2.2.2.2.2.1
theorem LK.p3 {g : KG} {h : KH} {l : Int} (z_ : LK g h l) : h l 3 = l + 3 := z_.2.2.2.2.2.2.2.2.2.2.2.1
theorem LK.p4 {g : KG} {h : KH} {l : Int} (z_ : LK g h l) : h l 4 = l + 7 := z_.2.2.2.2.2.2.2.2.2.2.2.2.1
theorem LK.p6 {g : KG} {h : KH} {l : Int} (z_ : LK g h l) : h l 6 = l + 11 := z_.2.2.2.2.2.2.2.2.2.2.2.2.2.1
theorem LK.p7 {g : KG} {h : KH} {l : Int} (z_ : LK g h l) : h l 7 = l + 12 := z_.2.2.2.2.2.2.2.2.2.2.2.2.2.2
/-- a land stands for what A says of it -/
def LR (g : KG) (h : KH) (l : Int) (A : St) : Prop := (LK g h l) ∧ (h l 0 = A.nq) ∧ (h l 5 = A.nd) ∧ (h l 8 = A.wk) ∧ (h l 9 = A.ca) ∧ (h l 10 = A.cm) ∧ (∀ q, inq A q → h (l + 2) q = A.ch q) ∧ (TR g h (l + 3) A 0) ∧ (TR g h (l + 7) A 1) ∧ (∀ i, 0 ≤ i → i < A.nd → h (l + 11) i = A.dx i) ∧ (∀ i, 0 ≤ i → i < A.nd → h (l + 12) i = A.dy i)
theorem LR.to_ {g : KG} {h : KH} {l : Int} {A : St} (z_ : LR g h l A) : LK g h l := z_.1
theorem LR.nq {g : KG} {h : KH} {l : Int} {A : St} (z_ : LR g h l A) : h l 0 = A.nq := z_.2.1
theorem LR.nd {g : KG} {h : KH} {l : Int} {A : St} (z_ : LR g h l A) : h l 5 = A.nd := z_.2.2.1
theorem LR.wk {g : KG} {h : KH} {l : Int} {A : St} (z_ : LR g h l A) : h l 8 = A.wk := z_.2.2.2.1
theorem LR.ca {g : KG} {h : KH} {l : Int} {A : St} (z_ : LR g h l A) : h l 9 = A.ca := z_.2.2.2.2.1
theorem LR.cm {g : KG} {h : KH} {l : Int} {A : St} (z_ : LR g h l A) : h l 10 = A.cm := z_.2.2.2.2.2.1
theorem LR.ch {g : KG} {h : KH} {l : Int} {A : St} (z_ : LR g h l A) : ∀ q, inq A q → h (l + 2) q = A.ch q := z_.2.2.2.2.2.2.1
theorem LR.tl {g : KG} {h : KH} {l : Int} {A : St} (z_ : LR g h l A) : TR g h (l + 3) A 0 := z_.2.2.2.2.2.2.2.1
theorem LR.tm {g : KG} {h : KH} {l : Int} {A : St} (z_ : LR g h l A) : TR g h (l + 7) A 1 := z_.2.2.2.2.2.2.2.2.1
theorem LR.dx {g : KG} {h : KH} {l : Int} {A : St} (z_ : LR g h l A) : ∀ i, 0 ≤ i → i < A.nd → h (l + 11) i = A.dx i := z_.2.2.2.2.2.2.2.2.2.1
theorem LR.dy {g : KG} {h : KH} {l : Int} {A : St} (z_ : LR g h l A) : ∀ i, 0 ≤ i → i < A.nd → h (l + 12) i = A.dy i := z_.2.2.2.2.2.2.2.2.2.2
theorem LR.k0 {g : KG} {h : KH} {l : Int} {A : St} (z_ : LR g h l A) : gK g l = 3 := LK.k0 (LR.to_ z_)
theorem LR.k1 {g : KG} {h : KH} {l : Int} {A : St} (z_ : LR g h l A) : gK g (l + 1) = 21 := LK.k1 (LR.to_ z_)
theorem LR.l1 {g : KG} {h : KH} {l : Int} {A : St} (z_ : LR g h l A) : gL g (l + 1) = 6 := LK.l1 (LR.to_ z_)
theorem LR.k2 {g : KG} {h : KH} {l : Int} {A : St} (z_ : LR g h l A) : gK g (l + 2) = 20 := LK.k2 (LR.to_ z_)
theorem LR.l2 {g : KG} {h : KH} {l : Int} {A : St} (z_ : LR g h l A) : gL g (l + 2) = 6 := LK.l2 (LR.to_ z_)
theorem LR.k11 {g : KG} {h : KH} {l : Int} {A : St} (z_ : LR g h l A) : gK g (l + 11) = 20 := LK.k11 (LR.to_ z_)
theorem LR.l11 {g : KG} {h : KH} {l : Int} {A : St} (z_ : LR g h l A) : gL g (l + 11) = 16 := LK.l11 (LR.to_ z_)
theorem LR.k12 {g : KG} {h : KH} {l : Int} {A : St} (z_ : LR g h l A) : gK g (l + 12) = 20 := LK.k12 (LR.to_ z_)
theorem LR.l12 {g : KG} {h : KH} {l : Int} {A : St} (z_ : LR g h l A) : gL g (l + 12) = 16 := LK.l12 (LR.to_ z_)
theorem LR.p1 {g : KG} {h : KH} {l : Int} {A : St} (z_ : LR g h l A) : h l 1 = l + 1 := LK.p1 (LR.to_ z_)
theorem LR.p2 {g : KG} {h : KH} {l : Int} {A : St} (z_ : LR g h l A) : h l 2 = l + 2 := LK.p2 (LR.to_ z_)
theorem LR.p3 {g : KG} {h : KH} {l : Int} {A : St} (z_ : LR g h l A) : h l 3 = l + 3 := LK.p3 (LR.to_ z_)
theorem LR.p4 {g : KG} {h : KH} {l : Int} {A : St} (z_ : LR g h l A) : h l 4 = l + 7 := LK.p4 (LR.to_ z_)
theorem LR.p6 {g : KG} {h : KH} {l : Int} {A : St} (z_ : LR g h l A) : h l 6 = l + 11 := LK.p6 (LR.to_ z_)
theorem LR.p7 {g : KG} {h : KH} {l : Int} {A : St} (z_ : LR g h l A) : h l 7 = l + 12 := LK.p7 (LR.to_ z_)
/-- the weight of an answer of a row p of answers -/
def St.wof (A : St) (m p q : Int) : Int := A.wt m q (if A.gb m q = -1 then 0 else dg p (A.gb m q)) (dg p q)
theorem St.Ok.wof {A : St} (O : A.Ok) {m p q : Int} (hm : bit1 m) (hq : inq A q) (hp : A.row p) : 0 ≤ A.wof m p q ∧ A.wof m p q ≤ 16 := by
  have h4 := O.nq
  refine O.wt m q _ _ hm hq ?_ ?_ (dg_r p q).1 (hp.2.2.1 q hq)
  · split
    · exact Int.le_refl _
    · exact (dg_r _ _).1
  · unfold St.rows
    rcases O.gb m q hm hq with h | ⟨h1, h2⟩
    · rw [if_pos h, if_pos h]; decide
    · rw [if_neg (by omega), if_neg (by omega)]
      exact hp.2.2.1 _ ⟨h1, by have := hq.2; omega⟩
theorem S68 {g : KG} {h : KH} {t : Int} {A : St} {m : Int} (T : TR g h t A m) (O : A.Ok) {p q : Int} (hm : bit1 m) (hq : inq A q) (hp : A.row p) {d : Nat} {Q : Option KV → KG → KH → Prop} (hQ : Q (some (xI (A.wof m p q))) g h) : Cl (d + 2) 68 [xR t, xI p, xI q] g h Q := by
  have hn := O.nq
  have q0 := hq.1
  have q1 := hq.2
  have hq6 : q < 6 := by omega
  have hch := O.ch q hq
  have hd := hp.2.2.1 q hq
  have hd0 := (dg_r p q).1
  have hgb := O.gb m q hm hq
  have e := T.b q hq
  unfold St.wof at hQ
  simp (disch := omega) only [E68, B68_24, B68_36, B68_39, T.k0, T.p0, T.k1, T.l1, e, true_and, ga]
  rcases hgb with hb | ⟨hb0, hb1⟩
  · rw [if_pos hb] at hQ
    rw [if_neg (by simp [hb])]
    have w := T.w q 0 (dg p q) hq (Int.le_refl _) (by unfold St.rows; rw [if_pos hb]; decide) hd0 hd
    simp (disch := omega) only [E68, B68_24, B68_36, B68_39, S151, S154, ga, o1, List.cons_append, List.nil_append, T.k0, T.p2, T.k3, T.l3, true_and, w]
    exact hQ
  · have hne : ¬ A.gb m q = -1 := by omega
    rw [if_neg hne] at hQ
    rw [if_pos hne]
    have hb := hp.2.2.1 (A.gb m q) ⟨hb0, by omega⟩
    have hb2 := (dg_r p (A.gb m q))
    have w := T.w q (dg p (A.gb m q)) (dg p q) hq hb2.1 (by unfold St.rows; rw [if_neg hne]; exact hb) hd0 hd
    simp (disch := omega) only [E68, B68_24, B68_36, B68_39, S151, S154, ga, o1, List.cons_append, List.nil_append, T.k0, T.p2, T.k3, T.l3, true_and, w]
    exact hQ
def St.prd (A : St) (mf p : Int) : Nat → Int
  | 0 => 1
  | n + 1 => A.prd mf p n * A.wof (if (n : Int) < mf then 0 else 1) p n
/-- the weights of a row: the law's ahead of mf, the mind's from it on -/
def St.prod (A : St) (mf p : Int) : Int := A.prd mf p A.nq.toNat
theorem St.Ok.prd {A : St} (O : A.Ok) {p : Int} (hp : A.row p) (mf : Int) : ∀ n : Nat, (n : Int) ≤ A.nq → 0 ≤ A.prd mf p n ∧ A.prd mf p n ≤ 16 ^ n := by
  intro n
  induction n with
  | zero => intro _; exact ⟨by show (0 : Int) ≤ 1; decide, by show (1 : Int) ≤ 16 ^ 0; decide⟩
  | succ n ih =>
    intro hn
    have h1 := ih (by omega)
    have hm : bit1 (if (n : Int) < mf then 0 else 1) := by split; exact Or.inl rfl; exact Or.inr rfl
    have h2 := O.wof (q := n) hm ⟨by omega, by omega⟩ hp
    unfold St.prd
    refine ⟨Int.mul_nonneg h1.1 h2.1, ?_⟩
    rw [Int.pow_succ]
    exact Int.mul_le_mul h1.2 h2.2 h2.1 (Int.le_trans h1.1 h1.2)
theorem pow16 {n : Nat} (h : n ≤ 6) : (16 : Int) ^ n ≤ 16777216 := by
  have : n = 0 ∨ n = 1 ∨ n = 2 ∨ n = 3 ∨ n = 4 ∨ n = 5 ∨ n = 6 := by omega
  rcases this with rfl | rfl | rfl | rfl | rfl | rfl | rfl <;> decide
theorem St.Ok.prd2 {A : St} (O : A.Ok) {p : Int} (hp : A.row p) (mf : Int) (n : Nat) (hn : (n : Int) ≤ A.nq) : 0 ≤ A.prd mf p n ∧ A.prd mf p n ≤ 16777216 := by
  have h := O.prd hp mf n hn
  have h6 := O.nq
  exact ⟨h.1, Int.le_trans h.2 (pow16 (by omega))⟩
theorem St.Ok.prod {A : St} (O : A.Ok) {p : Int} (hp : A.row p) (mf : Int) : 0 ≤ A.prod mf p ∧ A.prod mf p ≤ 16777216 := by
  have h6 := O.nq
  exact O.prd2 hp mf _ (by omega)
theorem L21 {g : KG} {h : KH} {l : Int} {A : St} (L : LR g h l A) (O : A.Ok) {p mf : Int} (hp : A.row p) {d : Nat} {Q : Option KV → KG → KH → Prop} (hQ : Q (some (xI (A.prod mf p))) g h) : ∀ n k : Nat, k + n = A.nq.toNat → Rn (d + 2) 21 5 [xR l, xI mf, xI p, xI (A.prd mf p k), xI (k : Int)] [] g h Q := by
  intro n
  have h6 := O.nq
  induction n with
  | zero =>
    intro k hk
    have hk : k = A.nq.toNat := by omega
    rw [B21_5, L.nq, if_pos (by omega), ga L.k0, hk]
    exact hQ
  | succ n ih =>
    intro k hk
    have hq : inq A k := ⟨by omega, by omega⟩
    have b1 := O.prd2 hp mf k (by omega)
    have b2 := O.prd2 hp mf (k + 1) (by omega)
    have fin : ∀ w, w = A.wof (if (k : Int) < mf then 0 else 1) p k → Rn (d + 2) 21 38 [xR l, xI mf, xI p, xI (A.prd mf p k), xI (k : Int)] [xI w, xI (A.prd mf p k)] g h Q := by
      intro w hw
      have e : A.prd mf p k * w = A.prd mf p (k + 1) := by rw [hw]; rfl
      rw [B21_38, e, w32_id (by omega) (by omega), w32_id (by omega) (by omega)]
      exact ih (k + 1) (by omega)
    rw [B21_5, L.nq, if_neg (by omega), ga L.k0, L.p3, L.p4]
    by_cases hm : mf ≤ (k : Int)
    · rw [if_pos hm, ga L.k0, B21_32, ga L.tm.k0]
      refine S68 L.tm O (Or.inr rfl) hq hp ?_
      exact fin _ (by rw [if_neg (by omega)])
    · rw [if_neg hm, ga L.k0, B21_32, ga L.tl.k0]
      refine S68 L.tl O (Or.inl rfl) hq hp ?_
      exact fin _ (by rw [if_pos (by omega)])
theorem S21 {g : KG} {h : KH} {l : Int} {A : St} (L : LR g h l A) (O : A.Ok) {p mf : Int} (hp : A.row p) {d : Nat} {Q : Option KV → KG → KH → Prop} (hQ : Q (some (xI (A.prod mf p))) g h) : Cl (d + 3) 21 [xR l, xI mf, xI p] g h Q := by
  rw [E21]
  exact L21 L O hp hQ A.nq.toNat 0 (by omega)
