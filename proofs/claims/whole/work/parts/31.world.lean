/-! THE WORLD that class and model both stand for. -/
structure St where
  nq : Int
  nd : Int
  ns : Int
  nr : Int
  wk : Int
  ca : Int
  cm : Int
  ch : Int → Int
  gb : Int → Int → Int
  wt : Int → Int → Int → Int → Int
  dx : Int → Int
  dy : Int → Int
  ask : Int → Int
  dr : Int → Int
  fr : Int → Int
  tt : Int → Int
  pa : Int → Int
  cd : Int → Int
  tr : Int → Int
  hf : Int → Int
  rs : Int → Int
  op : Int → Int
  nm : Int → Int
  dp : Int → Int → Int
/-- how many rows a question's table has -/
def St.rows (A : St) (m q : Int) : Int := if A.gb m q = -1 then 1 else A.ch (A.gb m q)
def inq (A : St) (q : Int) : Prop := 0 ≤ q ∧ q < A.nq
def ins (A : St) (s : Int) : Prop := 0 ≤ s ∧ s < A.ns
def bit1 (m : Int) : Prop := m = 0 ∨ m = 1
/-- a packed row that answers may be -/
def St.row (A : St) (p : Int) : Prop := 0 ≤ p ∧ p < 4096 ∧ (∀ q, inq A q → dg p q < A.ch q) ∧ ∀ q, A.nq ≤ q → q < 6 → dg p q = 0
structure St.Ok (A : St) : Prop where
  nq : 0 ≤ A.nq ∧ A.nq ≤ 6
  nd : 0 ≤ A.nd ∧ A.nd ≤ 16
  ns : 0 ≤ A.ns ∧ A.ns ≤ 16
  nr : 0 ≤ A.nr ∧ A.nr ≤ 4
  wk : 1 ≤ A.wk ∧ A.wk ≤ 99
  ca : 0 ≤ A.ca ∧ A.ca ≤ 16
  cm : 0 ≤ A.cm ∧ A.cm ≤ 16
  ch : ∀ q, inq A q → 2 ≤ A.ch q ∧ A.ch q ≤ 4
  gb : ∀ m q, bit1 m → inq A q → A.gb m q = -1 ∨ (0 ≤ A.gb m q ∧ A.gb m q < q)
  wt : ∀ m q r a, bit1 m → inq A q → 0 ≤ r → r < A.rows m q → 0 ≤ a → a < A.ch q → 0 ≤ A.wt m q r a ∧ A.wt m q r a ≤ 16
  ws : ∀ m q r, bit1 m → inq A q → 0 ≤ r → r < A.rows m q → A.wt m q r 0 + A.wt m q r 1 + (if 2 < A.ch q then A.wt m q r 2 else 0) + (if 3 < A.ch q then A.wt m q r 3 else 0) = 16
  dx : ∀ i, 0 ≤ i → i < A.nd → 0 ≤ A.dx i ∧ A.dx i ≤ 99
  dy : ∀ i, 0 ≤ i → i < A.nd → 0 ≤ A.dy i ∧ A.dy i ≤ 99
  ask : ∀ s, ins A s → 0 ≤ A.ask s ∧ A.ask s ≤ 3
  dr : ∀ s, ins A s → 0 ≤ A.dr s ∧ A.dr s < A.nd
  fr : ∀ s, ins A s → 0 ≤ A.fr s ∧ A.fr s < A.tt s
  tt : ∀ s, ins A s → A.tt s ≤ 1439
  pa : ∀ s, ins A s → A.row (A.pa s)
  cd : ∀ s, ins A s → 0 ≤ A.cd s ∧ A.cd s ≤ 2
  tr : ∀ s, ins A s → 0 ≤ A.tr s ∧ A.tr s ≤ 3
  hf : ∀ s, ins A s → A.tr s = 3 → 0 ≤ A.hf s ∧ A.hf s ≤ 6
  rs0 : A.rs 0 = 0
  rs : ∀ r, 0 ≤ r → r < A.nr → A.rs r ≤ A.rs (r + 1)
  rsm : A.rs A.nr ≤ 200
  op : ∀ k, 0 ≤ k → k < A.rs A.nr → 1 ≤ A.op k ∧ A.op k ≤ 10 ∧ 0 ≤ A.nm k ∧ A.nm k ≤ 9999
  dp : ∀ r, 0 ≤ r → r < A.nr → A.dp r (A.rs r) = 0 ∧ A.dp r (A.rs (r + 1)) = 1 ∧ ∀ k, A.rs r ≤ k → k < A.rs (r + 1) → 0 ≤ A.dp r k ∧ A.dp r k ≤ 40 ∧ (3 < A.op k → A.dp r (k + 1) = A.dp r k + 1) ∧ (A.op k = 3 → 1 ≤ A.dp r k ∧ A.dp r (k + 1) = A.dp r k) ∧ (A.op k < 3 → 2 ≤ A.dp r k ∧ A.dp r (k + 1) = A.dp r k - 1)
/-! the class's objects: a table at t, a land at l -/
structure TK (g : KG) (h : KH) (t : Int) : Prop where
  k0 : gK g t = 8
  k1 : gK g (t + 1) = 20
  l1 : gL g (t + 1) = 6
  k2 : gK g (t + 2) = 23
  l2 : gL g (t + 2) = 6
  k3 : gK g (t + 3) = 20
  l3 : gL g (t + 3) = 96
  p0 : h t 0 = t + 1
  p1 : h t 1 = t + 2
  p2 : h t 2 = t + 3
structure TR (g : KG) (h : KH) (t : Int) (A : St) (m : Int) : Prop extends TK g h t where
  b : ∀ q, inq A q → h (t + 1) q = A.gb m q
  w : ∀ q r a, inq A q → 0 ≤ r → r < A.rows m q → 0 ≤ a → a < A.ch q → h (t + 3) (16 * q + 4 * r + a) = A.wt m q r a
structure LK (g : KG) (h : KH) (l : Int) : Prop where
  k0 : gK g l = 3
  k1 : gK g (l + 1) = 21
  l1 : gL g (l + 1) = 6
  k2 : gK g (l + 2) = 20
  l2 : gL g (l + 2) = 6
  k11 : gK g (l + 11) = 20
  l11 : gL g (l + 11) = 16
  k12 : gK g (l + 12) = 20
  l12 : gL g (l + 12) = 16
  p1 : h l 1 = l + 1
  p2 : h l 2 = l + 2
  p3 : h l 3 = l + 3
  p4 : h l 4 = l + 7
  p6 : h l 6 = l + 11
  p7 : h l 7 = l + 12
/-- a land stands for what A says of it -/
structure LR (g : KG) (h : KH) (l : Int) (A : St) : Prop extends LK g h l where
  nq : h l 0 = A.nq
  nd : h l 5 = A.nd
  wk : h l 8 = A.wk
  ca : h l 9 = A.ca
  cm : h l 10 = A.cm
  ch : ∀ q, inq A q → h (l + 2) q = A.ch q
  tl : TR g h (l + 3) A 0
  tm : TR g h (l + 7) A 1
  dx : ∀ i, 0 ≤ i → i < A.nd → h (l + 11) i = A.dx i
  dy : ∀ i, 0 ≤ i → i < A.nd → h (l + 12) i = A.dy i
/-- the weight of an answer of a row p of answers -/
def St.wof (A : St) (m p q : Int) : Int := A.wt m q (if A.gb m q = -1 then 0 else dg p (A.gb m q)) (dg p q)
theorem St.Ok.wof {A : St} (O : A.Ok) {m p q : Int} (hm : bit1 m) (hq : inq A q) (hp : A.row p) : 0 ≤ A.wof m p q ∧ A.wof m p q ≤ 16 := by
  have h4 := O.nq
  refine O.wt m q _ _ hm hq ?_ ?_ (dg_r p q).1 (hp.2.2.1 q hq)
  · split
    · exact Int.le_refl _
    · exact (dg_r _ _).1
  · unfold St.rows
    rcases O.gb m q hm hq with h | ⟨h1, h2⟩
    · rw [if_pos h, if_pos h]; decide
    · rw [if_neg (by omega), if_neg (by omega)]
      exact hp.2.2.1 _ ⟨h1, by have := hq.2; omega⟩
theorem S68 {g : KG} {h : KH} {t : Int} {A : St} {m : Int} (T : TR g h t A m) (O : A.Ok) {p q : Int} (hm : bit1 m) (hq : inq A q) (hp : A.row p) {d : Nat} {Q : Option KV → KG → KH → Prop} (hQ : Q (some (xI (A.wof m p q))) g h) : Cl (d + 2) 68 [xR t, xI p, xI q] g h Q := by
  have hn := O.nq
  have q0 := hq.1
  have q1 := hq.2
  have hq6 : q < 6 := by omega
  have hch := O.ch q hq
  have hd := hp.2.2.1 q hq
  have hd0 := (dg_r p q).1
  have hgb := O.gb m q hm hq
  have e := T.b q hq
  unfold St.wof at hQ
  simp (disch := omega) only [E68, B68_24, B68_36, B68_39, T.k0, T.p0, T.k1, T.l1, e, true_and, ga]
  rcases hgb with hb | ⟨hb0, hb1⟩
  · rw [if_pos hb] at hQ
    rw [if_neg (by simp [hb])]
    have w := T.w q 0 (dg p q) hq (Int.le_refl _) (by unfold St.rows; rw [if_pos hb]; decide) hd0 hd
    simp (disch := omega) only [E68, B68_24, B68_36, B68_39, S151, S154, ga, o1, List.cons_append, List.nil_append, T.k0, T.p2, T.k3, T.l3, true_and, w]
    exact hQ
  · have hne : ¬ A.gb m q = -1 := by omega
    rw [if_neg hne] at hQ
    rw [if_pos hne]
    have hb := hp.2.2.1 (A.gb m q) ⟨hb0, by omega⟩
    have hb2 := (dg_r p (A.gb m q))
    have w := T.w q (dg p (A.gb m q)) (dg p q) hq hb2.1 (by unfold St.rows; rw [if_neg hne]; exact hb) hd0 hd
    simp (disch := omega) only [E68, B68_24, B68_36, B68_39, S151, S154, ga, o1, List.cons_append, List.nil_append, T.k0, T.p2, T.k3, T.l3, true_and, w]
    exact hQ
def St.prd (A : St) (mf p : Int) : Nat → Int
  | 0 => 1
  | n + 1 => A.prd mf p n * A.wof (if (n : Int) < mf then 0 else 1) p n
/-- the weights of a row: the law's ahead of mf, the mind's from it on -/
def St.prod (A : St) (mf p : Int) : Int := A.prd mf p A.nq.toNat
theorem St.Ok.prd {A : St} (O : A.Ok) {p : Int} (hp : A.row p) (mf : Int) : ∀ n : Nat, (n : Int) ≤ A.nq → 0 ≤ A.prd mf p n ∧ A.prd mf p n ≤ 16 ^ n := by
  intro n
  induction n with
  | zero => intro _; exact ⟨by decide, by decide⟩
  | succ n ih =>
    intro hn
    have h1 := ih (by omega)
    have hm : bit1 (if (n : Int) < mf then 0 else 1) := by split; exact Or.inl rfl; exact Or.inr rfl
    have h2 := O.wof (q := n) hm ⟨by omega, by omega⟩ hp
    unfold St.prd
    refine ⟨Int.mul_nonneg h1.1 h2.1, ?_⟩
    rw [Int.pow_succ]
    exact Int.mul_le_mul h1.2 h2.2 h2.1 (Int.le_trans h1.1 h1.2)
theorem pow16 {n : Nat} (h : n ≤ 6) : (16 : Int) ^ n ≤ 16777216 := by
  have : n = 0 ∨ n = 1 ∨ n = 2 ∨ n = 3 ∨ n = 4 ∨ n = 5 ∨ n = 6 := by omega
  rcases this with rfl | rfl | rfl | rfl | rfl | rfl | rfl <;> decide
theorem St.Ok.prd2 {A : St} (O : A.Ok) {p : Int} (hp : A.row p) (mf : Int) (n : Nat) (hn : (n : Int) ≤ A.nq) : 0 ≤ A.prd mf p n ∧ A.prd mf p n ≤ 16777216 := by
  have h := O.prd hp mf n hn
  have h6 := O.nq
  exact ⟨h.1, Int.le_trans h.2 (pow16 (by omega))⟩
theorem St.Ok.prod {A : St} (O : A.Ok) {p : Int} (hp : A.row p) (mf : Int) : 0 ≤ A.prod mf p ∧ A.prod mf p ≤ 16777216 := by
  have h6 := O.nq
  exact O.prd2 hp mf _ (by omega)
theorem L21 {g : KG} {h : KH} {l : Int} {A : St} (L : LR g h l A) (O : A.Ok) {p mf : Int} (hp : A.row p) {d : Nat} {Q : Option KV → KG → KH → Prop} (hQ : Q (some (xI (A.prod mf p))) g h) : ∀ n k : Nat, k + n = A.nq.toNat → Rn (d + 2) 21 5 [xR l, xI mf, xI p, xI (A.prd mf p k), xI (k : Int)] [] g h Q := by
  intro n
  have h6 := O.nq
  induction n with
  | zero =>
    intro k hk
    have hk : k = A.nq.toNat := by omega
    rw [B21_5, L.nq, if_pos (by omega), ga L.k0, hk]
    exact hQ
  | succ n ih =>
    intro k hk
    have hq : inq A k := ⟨by omega, by omega⟩
    have b1 := O.prd2 hp mf k (by omega)
    have b2 := O.prd2 hp mf (k + 1) (by omega)
    have fin : ∀ w, w = A.wof (if (k : Int) < mf then 0 else 1) p k → Rn (d + 2) 21 38 [xR l, xI mf, xI p, xI (A.prd mf p k), xI (k : Int)] [xI w, xI (A.prd mf p k)] g h Q := by
      intro w hw
      have e : A.prd mf p k * w = A.prd mf p (k + 1) := by rw [hw]; rfl
      rw [B21_38, e, w32_id (by omega) (by omega), w32_id (by omega) (by omega)]
      exact ih (k + 1) (by omega)
    rw [B21_5, L.nq, if_neg (by omega), ga L.k0, L.p3, L.p4]
    by_cases hm : mf ≤ (k : Int)
    · rw [if_pos hm, ga L.k0, B21_32, ga L.tm.k0]
      refine S68 L.tm O (Or.inr rfl) hq hp ?_
      exact fin _ (by rw [if_neg (by omega)])
    · rw [if_neg hm, ga L.k0, B21_32, ga L.tl.k0]
      refine S68 L.tl O (Or.inl rfl) hq hp ?_
      exact fin _ (by rw [if_pos (by omega)])
theorem S21 {g : KG} {h : KH} {l : Int} {A : St} (L : LR g h l A) (O : A.Ok) {p mf : Int} (hp : A.row p) {d : Nat} {Q : Option KV → KG → KH → Prop} (hQ : Q (some (xI (A.prod mf p))) g h) : Cl (d + 3) 21 [xR l, xI mf, xI p] g h Q := by
  rw [E21]
  exact L21 L O hp hQ A.nq.toNat 0 (by omega)
