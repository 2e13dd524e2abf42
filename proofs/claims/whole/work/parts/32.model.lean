/-! THE MODEL's side: its objects, its memory. -/
structure MK (g : KG) (h : KH) : Prop where
  k0 : gK g 138 = 12
  kat : gK g 139 = 20
  lat : gL g 139 = 4500
  k140 : gK g 140 = 20
  l140 : gL g 140 = 4
  k141 : gK g 141 = 20
  l141 : gL g 141 = 4
  k142 : gK g 142 = 21
  l142 : gL g 142 = 240
  k143 : gK g 143 = 22
  l143 : gL g 143 = 700
  k144 : gK g 144 = 22
  l144 : gL g 144 = 700
  k145 : gK g 145 = 21
  l145 : gL g 145 = 6
  k146 : gK g 146 = 20
  l146 : gL g 146 = 64
  k147 : gK g 147 = 20
  l147 : gL g 147 = 16
  k148 : gK g 148 = 20
  l148 : gL g 148 = 16
  k149 : gK g 149 = 20
  l149 : gL g 149 = 6
  k150 : gK g 150 = 23
  l150 : gL g 150 = 64
  k151 : gK g 151 = 20
  l151 : gL g 151 = 6
  k152 : gK g 152 = 20
  l152 : gL g 152 = 6
  k153 : gK g 153 = 20
  l153 : gL g 153 = 16
  k154 : gK g 154 = 20
  l154 : gL g 154 = 16
  pat : h 138 0 = 139
  p4 : h 138 4 = 140
  p5 : h 138 5 = 141
  p6 : h 138 6 = 142
  p7 : h 138 7 = 143
  p8 : h 138 8 = 144
  p19 : h 138 19 = 145
  p20 : h 138 20 = 146
  p28 : h 138 28 = 147
  p29 : h 138 29 = 148
  p31 : h 138 31 = 149
  p32 : h 138 32 = 150
  p33 : h 138 33 = 151
  p34 : h 138 34 = 152
  p36 : h 138 36 = 153
  p37 : h 138 37 = 154
/-- a slot of the model's memory stands for what A says -/
structure MS (f : Int → Int) (A : St) : Prop where
  nq : f 0 = A.nq
  nd : f 1 = A.nd
  ns : f 2 = A.ns
  nr : f 3 = A.nr
  wk : f 4 = A.wk
  ca : f 5 = A.ca
  cm : f 6 = A.cm
  ch : ∀ q, inq A q → f (8 + 3 * q) = A.ch q
  gb : ∀ m q, bit1 m → inq A q → f (8 + 3 * q + 1 + m) = A.gb m q
  wt : ∀ m q r a, bit1 m → inq A q → 0 ≤ r → r < A.rows m q → 0 ≤ a → a < A.ch q → f (0 + 26 + 32 * q + 16 * m + 4 * r + a) = A.wt m q r a
  dx : ∀ i, 0 ≤ i → i < A.nd → f (218 + 2 * i) = A.dx i
  dy : ∀ i, 0 ≤ i → i < A.nd → f (218 + 2 * i + 1) = A.dy i
  ask : ∀ s, ins A s → f (250 + 13 * s + 0) = A.ask s
  dr : ∀ s, ins A s → f (250 + 13 * s + 1) = A.dr s
  fr : ∀ s, ins A s → f (250 + 13 * s + 2) = A.fr s
  tt : ∀ s, ins A s → f (250 + 13 * s + 3) = A.tt s
  cd : ∀ s, ins A s → f (250 + 13 * s + 4) = A.cd s
  tr : ∀ s, ins A s → f (250 + 13 * s + 5) = A.tr s
  hf : ∀ s, ins A s → A.tr s = 3 → f (250 + 13 * s + 6) = A.hf s
  pa : ∀ s q, ins A s → inq A q → f (250 + 13 * s + 7 + q) = dg (A.pa s) q
  rs : ∀ r, 0 ≤ r → r ≤ A.nr → f (458 + r) = A.rs r
  op : ∀ k, 0 ≤ k → k < A.rs A.nr → f (464 + 2 * k) = A.op k
  nm : ∀ k, 0 ≤ k → k < A.rs A.nr → f (464 + 2 * k + 1) = A.nm k
/-- a row of answers in an array, from a place on -/
def RowAt (g : KG) (h : KH) (A : St) (a o p : Int) : Prop := gK g a = 20 ∧ 0 ≤ o ∧ o ≤ 4000 ∧ o + A.nq ≤ gL g a ∧ ∀ q, inq A q → h a (o + q) = dg p q
theorem bit1_le {m : Int} (h : bit1 m) : 0 ≤ m ∧ m ≤ 1 := by rcases h with rfl | rfl <;> decide
theorem S213 {g : KG} {h : KH} {A : St} (K : MK g h) (M : MS (h 139) A) (O : A.Ok) {m p q a o : Int} (hm : bit1 m) (hq : inq A q) (hp : A.row p) (hr : RowAt g h A a o p) {d : Nat} {Q : Option KV → KG → KH → Prop} (hQ : Q (some (xI (A.wof m p q))) g h) : Cl (d + 2) 213 [xR 138, xI q, xI m, xR a, xI o] g h Q := by
  obtain ⟨r1, r2, r3, r4, r5⟩ := hr
  have hm1 := bit1_le hm
  have hn := O.nq
  have q0 := hq.1
  have q1 := hq.2
  have hch := O.ch q hq
  have hd := hp.2.2.1 q hq
  have hd0 := (dg_r p q).1
  have hgb := O.gb m q hm hq
  have e := M.gb m q hm hq
  have eq := r5 q hq
  unfold St.wof at hQ
  simp (disch := omega) only [E213, B213_41, B213_44, E187, w32_id, K.k0, K.pat, K.kat, K.lat, e, true_and, ga, o1, List.cons_append, List.nil_append, r1, eq]
  rcases hgb with hb | ⟨hb0, hb1⟩
  · rw [if_pos hb] at hQ
    rw [if_neg (by simp [hb])]
    have w := M.wt m q 0 (dg p q) hm hq (Int.le_refl _) (by unfold St.rows; rw [if_pos hb]; decide) hd0 hd
    simp (disch := omega) only [w32_id, ga, w, K.kat, K.lat, true_and]
    exact hQ
  · have hne : ¬ A.gb m q = -1 := by omega
    rw [if_neg hne] at hQ
    rw [if_pos hne]
    have hib : inq A (A.gb m q) := ⟨hb0, by omega⟩
    have hb := hp.2.2.1 (A.gb m q) hib
    have hb2 := (dg_r p (A.gb m q))
    have eb := r5 _ hib
    have w := M.wt m q (dg p (A.gb m q)) (dg p q) hm hq hb2.1 (by unfold St.rows; rw [if_neg hne]; exact hb) hd0 hd
    simp (disch := omega) only [w32_id, ga, eb, w, K.kat, K.lat, true_and]
    exact hQ
theorem L214 {g : KG} {h : KH} {A : St} (K : MK g h) (M : MS (h 139) A) (O : A.Ok) {mf p a o : Int} (hp : A.row p) (hr : RowAt g h A a o p) {d : Nat} {Q : Option KV → KG → KH → Prop} (hQ : Q (some (xL (A.prod mf p))) g h) : ∀ n k : Nat, k + n = A.nq.toNat → Rn (d + 2) 214 6 [xR 138, xR a, xI o, xI mf, xL (A.prd mf p k), xU, xI (k : Int)] [] g h Q := by
  intro n
  have h6 := O.nq
  induction n with
  | zero =>
    intro k hk
    have hk : k = A.nq.toNat := by omega
    simp (disch := omega) only [B214_6, K.k0, K.pat, K.kat, K.lat, true_and, ga, M.nq, if_pos, hk]
    exact hQ
  | succ n ih =>
    intro k hk
    have hq : inq A k := ⟨by omega, by omega⟩
    have b1 := O.prd2 hp mf k (by omega)
    have b2 := O.prd2 hp mf (k + 1) (by omega)
    have fin : ∀ w, w = A.wof (if (k : Int) < mf then 0 else 1) p k → Rn (d + 2) 214 38 [xR 138, xR a, xI o, xI mf, xL (A.prd mf p k), xU, xI (k : Int)] [xI w, xL (A.prd mf p k)] g h Q := by
      intro w hw
      have e : A.prd mf p k * w = A.prd mf p (k + 1) := by rw [hw]; rfl
      rw [B214_38, e, w64_id (by omega) (by omega), w32_id (by omega) (by omega)]
      exact ih (k + 1) (by omega)
    rw [B214_6, ga K.k0, K.pat, ga ⟨K.kat, by decide, by rw [K.lat]; decide⟩, M.nq, if_neg (by omega)]
    by_cases hm : mf ≤ (k : Int)
    · rw [if_pos hm, B214_33, ga K.k0]
      refine S213 K M O (Or.inr rfl) hq hp hr ?_
      exact fin _ (by rw [if_neg (by omega)])
    · rw [if_neg hm, B214_33, ga K.k0]
      refine S213 K M O (Or.inl rfl) hq hp hr ?_
      exact fin _ (by rw [if_pos (by omega)])
theorem S214 {g : KG} {h : KH} {A : St} (K : MK g h) (M : MS (h 139) A) (O : A.Ok) {mf p a o : Int} (hp : A.row p) (hr : RowAt g h A a o p) {d : Nat} {Q : Option KV → KG → KH → Prop} (hQ : Q (some (xL (A.prod mf p))) g h) : Cl (d + 3) 214 [xR 138, xR a, xI o, xI mf] g h Q := by
  rw [E214]
  exact L214 K M O hp hr hQ A.nq.toNat 0 (by omega)
theorem row_of {g : KG} {h : KH} {A : St} (K : MK g h) (M : MS (h 139) A) (O : A.Ok) {s : Int} (hs : ins A s) : RowAt g h A 139 (250 + 13 * s + 7) (A.pa s) := by
  have h1 := O.nq
  have h2 := O.ns
  have h3 := hs.1
  have h4 := hs.2
  exact ⟨K.kat, by omega, by omega, by rw [K.lat]; omega, fun q hq => M.pa s q hs hq⟩
/-- mind: true takes the mind's weights alone, false the law's -/
theorem S216 {g : KG} {h : KH} {A : St} (K : MK g h) (M : MS (h 139) A) (O : A.Ok) {s m : Int} (hs : ins A s) {d : Nat} {Q : Option KV → KG → KH → Prop} (hQ : Q (some (xL (A.prod (if m = 0 then A.nq else 0) (A.pa s)))) g h) : Cl (d + 4) 216 [xR 138, xI s, xI m] g h Q := by
  have h1 := O.nq
  have h2 := O.ns
  have h3 := hs.1
  have h4 := hs.2
  have hr := row_of K M O hs
  simp (disch := omega) only [E216, B216_9, B216_23, B216_26, E215, w32_id, K.k0, K.pat, true_and, o1, List.cons_append, List.nil_append]
  by_cases hm : m = 0
  · rw [if_pos hm] at hQ
    rw [if_pos hm, ga ⟨K.kat, by decide, by rw [K.lat]; decide⟩, M.nq]
    refine S214 K M O (O.pa s hs) hr ?_
    simp only [E216, B216_9, B216_23, B216_26, o1, List.cons_append, List.nil_append]
    exact hQ
  · rw [if_neg hm] at hQ
    rw [if_neg hm]
    refine S214 K M O (O.pa s hs) hr ?_
    simp only [E216, B216_9, B216_23, B216_26, o1, List.cons_append, List.nil_append]
    exact hQ
