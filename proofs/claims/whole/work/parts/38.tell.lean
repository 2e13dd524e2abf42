/-! fractions: Euclid's steps -/
def eu : Nat → Int → Int → Int
  | 0, a, _ => a
  | n + 1, a, b => if b = 0 then a else eu n b (a % b)
def cv : Nat → Int → Int → Prop
  | 0, _, b => b = 0
  | n + 1, a, b => b = 0 ∨ cv n b (a % b)
theorem cv_of : ∀ (n : Nat) (a b : Int), 0 ≤ b → b < 2 ^ n → cv (2 * n + 1) a b := by
  intro n
  induction n with
  | zero => intro a b h0 h1; exact Or.inl (by omega)
  | succ n ih =>
    intro a b h0 h1
    by_cases hb : b = 0
    · exact Or.inl hb
    · refine Or.inr ?_
      show cv (2 * n + 1 + 1) b (a % b)
      have r0 := Int.emod_nonneg a hb
      have r1 := Int.emod_lt_of_pos a (show 0 < b by omega)
      generalize a % b = r at r0 r1 ⊢
      by_cases hr : r = 0
      · exact Or.inl hr
      · refine Or.inr (ih r (b % r) (Int.emod_nonneg b hr) ?_)
        have s1 := Int.emod_lt_of_pos b (show 0 < r by omega)
        have s2 := Int.emod_add_mul_ediv b r
        have s3 : 1 ≤ b / r := Int.le_ediv_of_mul_le (by omega) (by omega)
        have s4 : r * 1 ≤ r * (b / r) := Int.mul_le_mul_of_nonneg_left s3 (by omega)
        rw [Int.pow_succ] at h1
        omega
theorem eu_pos : ∀ (n : Nat) (a b : Int), 0 < a → 0 ≤ b → 0 < eu n a b := by
  intro n
  induction n with
  | zero => intro a b h0 h1; exact h0
  | succ n ih =>
    intro a b h0 h1
    unfold eu
    by_cases hb : b = 0
    · rw [if_pos hb]; exact h0
    · rw [if_neg hb]; exact ih b (a % b) (by omega) (Int.emod_nonneg a hb)
theorem cv_eu : ∀ (n m : Nat) (a b : Int), cv n a b → n ≤ m → eu m a b = eu n a b := by
  intro n
  induction n with
  | zero =>
    intro m a b h _
    have h : b = 0 := h
    cases m with
    | zero => rfl
    | succ m => unfold eu; rw [if_pos h]
  | succ n ih =>
    intro m a b h hm
    obtain ⟨m, rfl⟩ : ∃ k, m = k + 1 := ⟨m - 1, by omega⟩
    unfold eu
    by_cases hb : b = 0
    · rw [if_pos hb, if_pos hb]
    · rw [if_neg hb, if_neg hb]
      rcases h with h | h
      · exact absurd h hb
      · exact ih m _ _ h (by omega)
/-- the greatest common divisor, as both find it -/
def gcv (a b : Int) : Int := eu 200 a b
theorem gcv_pos {a b : Int} (ha : 0 ≤ a) (hb : 0 < b) : 0 < gcv a b := by
  show 0 < eu (199 + 1) a b
  unfold eu
  rw [if_neg (by omega)]
  exact eu_pos 199 b (a % b) hb (Int.emod_nonneg a (by omega))
theorem cv_gcv {a b : Int} (hb : 0 ≤ b) (h : b < 9223372036854775808) : cv 127 a b ∧ eu 127 a b = gcv a b := by
  have h1 : cv 127 a b := cv_of 63 a b hb h
  exact ⟨h1, (cv_eu 127 200 a b h1 (by decide)).symm⟩
theorem L147 {d : Nat} {g : KG} {h : KH} {Q : Option KV → KG → KH → Prop} {a b G : Int} (hQ : Q (some (xL G)) g h) : ∀ (n k : Nat) (x y : Int) (a9 : KV), k + n = 200 → 0 ≤ x → 0 ≤ y → eu n x y = G → Rn d 147 9 [xL a, xU, xL b, xU, xL x, xU, xL y, xU, xI (k : Int), a9, xU] [] g h Q := by
  intro n
  induction n with
  | zero =>
    intro k x y a9 hk h0 h1 e
    have e : x = G := e
    rw [B147_9, if_pos (by omega), B147_45, e]
    exact hQ
  | succ n ih =>
    intro k x y a9 hk h0 h1 e
    unfold eu at e
    rw [B147_9, if_neg (by omega)]
    simp only [c64eq]
    by_cases hy : y = 0
    · rw [if_pos hy] at e
      rw [if_pos hy, B147_45, e]
      exact hQ
    · rw [if_neg hy] at e
      rw [if_neg hy, ga hy, w32_id (by omega) (by omega), Int.tmod_eq_emod_of_nonneg h0]
      exact ih (k + 1) y (x % y) _ (by omega) h1 (Int.emod_nonneg x hy) e
theorem S147 {d : Nat} {g : KG} {h : KH} {Q : Option KV → KG → KH → Prop} {a b : Int} (ha : 0 ≤ a) (hb : 0 ≤ b) (hQ : Q (some (xL (gcv a b))) g h) : Cl (d + 1) 147 [xL a, xL b] g h Q := by
  rw [E147]
  exact L147 hQ 200 0 a b xU rfl ha hb rfl
theorem div_w {a g : Int} (ha : 0 ≤ a) (h : a < 9223372036854775808) (hg : 0 < g) : w64 (Int.tdiv a g) = a / g := by
  rw [Int.tdiv_eq_ediv_of_nonneg ha]
  have h1 := Int.ediv_nonneg ha (show 0 ≤ g by omega)
  have h2 := Int.ediv_le_self g ha
  exact w64_id (by omega) (by omega)
theorem S137 {d : Nat} {g : KG} {h : KH} {Q : Option KV → KG → KH → Prop} {a b : Int} (k : gK g 0 = 11) (ha : 0 ≤ a) (ha2 : a < 9223372036854775808) (hb : 0 < b) (hb2 : b < 9223372036854775808) (hQ : Q (some (xI 1)) g (hset (hset (hset h 0 12 (a / gcv a b)) 0 13 (b / gcv a b)) 0 11 0)) : Cl (d + 2) 137 [xR 0, xL a, xL b] g h Q := by
  have hg := gcv_pos ha hb
  rw [E137]
  refine S147 ha (by omega) ?_
  simp (disch := omega) only [E137, B137_5, B137_30, B137_34, o1, o0, List.cons_append, List.nil_append, c64le, if_neg, k, true_and, ga, div_w, S136 (k := k), g11]
  exact hQ
theorem L163 {d : Nat} {g : KG} {h : KH} {Q : Option KV → KG → KH → Prop} {a b G : Int} (k : gK g 138 = 12) (ha : 0 ≤ a) (ha2 : a < 9223372036854775808) (hb : 0 ≤ b) (hb2 : b < 9223372036854775808) (hG : 0 < G) (hQ : Q (some (xI 1)) g (hset (hset (hset h 138 2 (a / G)) 138 3 (b / G)) 138 1 0)) : ∀ (n : Nat) (x y : Int) (a9 : KV), cv n x y → 0 ≤ x → 0 ≤ y → eu n x y = G → Rn (d + 1) 163 6 [xR 138, xL a, xU, xL b, xU, xL x, xU, xL y, xU, a9, xU] [] g h Q := by
  have fin : ∀ (a9 : KV) (y : Int), Cl (d + 1) 160 [xR 138, xI 0] g (hset (hset h 138 2 (w64 (Int.tdiv a G))) 138 3 (w64 (Int.tdiv b G))) (fun r g1 h1 => Rn (d + 1) 163 52 [xR 138, xL a, xU, xL b, xU, xL G, xU, xL y, xU, a9, xU] (r.toList ++ []) g1 h1 Q) := by
    intro a9 y
    rw [S160 (k := k), bzt rfl]
    simp (disch := omega) only [o1, o0, List.cons_append, List.nil_append, B163_52, g11, div_w]
    exact hQ
  intro n
  induction n with
  | zero =>
    intro x y a9 hc h0 h1 e
    have e : x = G := e
    have hc : y = 0 := hc
    subst e
    rw [B163_6]
    simp only [c64eq]
    rw [if_pos hc, ga (by omega), ga k, ga (by omega), ga k, ga k]
    exact fin a9 y
  | succ n ih =>
    intro x y a9 hc h0 h1 e
    unfold eu at e
    rw [B163_6]
    simp only [c64eq]
    by_cases hy : y = 0
    · rw [if_pos hy] at e
      subst e
      rw [if_pos hy, ga (by omega), ga k, ga (by omega), ga k, ga k]
      exact fin a9 y
    · rw [if_neg hy] at e
      rw [if_neg hy, ga hy, Int.tmod_eq_emod_of_nonneg h0]
      rcases hc with hc | hc
      · exact absurd hc hy
      · exact ih y (x % y) _ hc h1 (Int.emod_nonneg x hy) e
theorem S163 {d : Nat} {g : KG} {h : KH} {Q : Option KV → KG → KH → Prop} {a b : Int} (k : gK g 138 = 12) (ha : 0 ≤ a) (ha2 : a < 9223372036854775808) (hb : 0 < b) (hb2 : b < 9223372036854775808) (hQ : Q (some (xI 1)) g (hset (hset (hset h 138 2 (a / gcv a b)) 138 3 (b / gcv a b)) 138 1 0)) : Cl (d + 2) 163 [xR 138, xL a, xL b] g h Q := by
  obtain ⟨c1, c2⟩ := cv_gcv (a := a) (b := b) (by omega) hb2
  rw [E163]
  exact L163 k ha ha2 (by omega) hb2 (gcv_pos ha hb) hQ 127 a b xU c1 ha (by omega) c2
/-- how a call that tells a fraction ends -/
def Wd.frac (W : Wd) (a b : Int) : Wd × Int := if b = 0 then (W.st 6, 0) else (W.tl (a / gcv a b) (b / gcv a b), 1)
def Cw (k : Nat) (as : List KV) (H : Nat) (W : Wd) (r : Wd × Int) : Prop := Cans k as H W r.1 (xI r.2)
def Mw (k : Nat) (as : List KV) (H : Nat) (W : Wd) (r : Wd × Int) : Prop := Mans k as H W r.1 (xI r.2)
theorem ctl {g : KG} {h : KH} {W : Wd} (C : CR g h W) {a b : Int} {v : KV} {Q : Option KV → KG → KH → Prop} (hQ : ∀ h2 : KH, CR g h2 (W.tl a b) → (∀ a, (a < 0 ∨ 138 ≤ a) → h2 a = h a) → Q (some v) g h2) : Q (some v) g (hset (hset (hset h 0 12 a) 0 13 b) 0 11 0) := by
  refine hQ _ (C.tl (fun x h0 h1 hq => ?_) (fun j h1 h2 h3 => ?_) ?_ ?_ ?_ ?_) (fun x hx => ?_)
  · unfold qc at hq
    rw [hset_a _ _ _ (by omega), hset_a _ _ _ (by omega), hset_a _ _ _ (by omega)]
  · rw [hset_i _ _ h1, hset_i _ _ h3, hset_i _ _ h2]
  · rw [hset_a _ _ _ (by decide), hset_a _ _ _ (by decide), hset_a _ _ _ (by decide)]
  · exact hset_e _ _ _ _
  · rw [hset_i _ _ (by decide), hset_i _ _ (by decide), hset_e]
  · rw [hset_i _ _ (by decide), hset_e]
  · rw [hset_a _ _ _ (by omega), hset_a _ _ _ (by omega), hset_a _ _ _ (by omega)]
/-- the model's end: h1 is h but for scratch -/
theorem mtl {g : KG} {h h1 : KH} {W : Wd} (C : MR g h W) {a b : Int} {v : KV} {Q : Option KV → KG → KH → Prop} (e : ∀ a, 139 ≤ a → a < 155 → (a < 147 ∨ a = 152) → h1 a = h a) (e0 : ∀ j, ¬ qm j → h1 138 j = h 138 j) (e1 : ∀ a, a < 138 → h1 a = h a) (hQ : ∀ h2 : KH, MR g h2 (W.tl a b) → (∀ a, a < 138 → h2 a = h a) → Q (some v) g h2) : Q (some v) g (hset (hset (hset h1 138 2 a) 138 3 b) 138 1 0) := by
  refine hQ _ (C.tl (fun x h0 h1 hq => ?_) (fun j hj => ?_) ?_ ?_ ?_) (fun x hx => ?_)
  · rw [hset_a _ _ _ (by omega), hset_a _ _ _ (by omega), hset_a _ _ _ (by omega)]
    exact e x h0 h1 hq
  · have hj2 := hj
    unfold qm at hj2
    rw [hset_i _ _ (by omega), hset_i _ _ (by omega), hset_i _ _ (by omega)]
    exact e0 j hj
  · exact hset_e _ _ _ _
  · rw [hset_i _ _ (by decide), hset_i _ _ (by decide), hset_e]
  · rw [hset_i _ _ (by decide), hset_e]
  · rw [hset_a _ _ _ (by omega), hset_a _ _ _ (by omega), hset_a _ _ _ (by omega)]
    exact e1 x hx
theorem mst2 {g : KG} {h h1 : KH} {W : Wd} (C : MR g h W) {s : Int} {v : KV} {Q : Option KV → KG → KH → Prop} (e : ∀ a, 139 ≤ a → a < 155 → (a < 147 ∨ a = 152) → h1 a = h a) (e0 : ∀ j, (j ≠ 1 ∧ j ≠ 26 ∧ j ≠ 27 ∧ j ≠ 30) → h1 138 j = h 138 j) (e1 : ∀ a, a < 138 → h1 a = h a) (hQ : ∀ h2 : KH, MR g h2 (W.st s) → (∀ a, a < 138 → h2 a = h a) → Q (some v) g h2) : Q (some v) g (hset h1 138 1 s) :=
  hQ _ (C.st (fun a h0 h2 hq => by rw [hset_a _ _ _ (by omega)]; exact e a h0 h2 hq) (fun j hj => by rw [hset_i _ _ hj.1]; exact e0 j hj) (hset_e _ _ _ _)) (fun a ha => by rw [hset_a _ _ _ (by omega)]; exact e1 a ha)
