/-! all rows of answers: by questions, and by numbers -/
def sumN (g : Nat → Int) : Nat → Int
  | 0 => 0
  | n + 1 => sumN g n + g n
theorem sumN_add (g : Nat → Int) (m : Nat) : ∀ n, sumN g (m + n) = sumN g m + sumN (fun k => g (m + k)) n := by
  intro n
  induction n with
  | zero => exact (Int.add_zero _).symm
  | succ n ih => rw [← Nat.add_assoc, sumN, sumN, ih, Int.add_assoc]
theorem sumN_con {g g2 : Nat → Int} : ∀ n, (∀ k, k < n → g k = g2 k) → sumN g n = sumN g2 n := by
  intro n
  induction n with
  | zero => intro _; rfl
  | succ n ih => intro H; rw [sumN, sumN, ih (fun k hk => H k (by omega)), H n (by omega)]
theorem sumN_mul (g : Nat → Int) (r : Nat) : ∀ c, sumN g (c * r) = sumN (fun a => sumN (fun k => g (a * r + k)) r) c := by
  intro c
  induction c with
  | zero => rw [Nat.zero_mul]; rfl
  | succ c ih => rw [Nat.succ_mul, sumN_add, ih, sumN]
theorem sumN_r {g : Nat → Int} {b : Int} : ∀ n : Nat, (∀ k, k < n → 0 ≤ g k ∧ g k ≤ b) → 0 ≤ sumN g n ∧ sumN g n ≤ n * b := by
  intro n
  induction n with
  | zero => intro _; rw [show ((0 : Nat) : Int) = 0 from rfl, Int.zero_mul]; exact ⟨Int.le_refl 0, Int.le_refl 0⟩
  | succ n ih =>
    intro H
    have h1 := ih (fun k hk => H k (by omega))
    have h2 := H n (by omega)
    have e : ((n + 1 : Nat) : Int) * b = n * b + b := by rw [show ((n + 1 : Nat) : Int) = (n : Int) + 1 by omega, Int.add_mul, Int.one_mul]
    rw [sumN, e]
    omega
def St.nrw (A : St) : Nat → Nat → Nat
  | 0, _ => 1
  | n + 1, q => (A.ch q).toNat * A.nrw n (q + 1)
theorem nrw_r {A : St} (O : A.Ok) : ∀ n q : Nat, (q + n : Nat) ≤ A.nq.toNat → 1 ≤ A.nrw n q ∧ A.nrw n q ≤ 4 ^ n := by
  have h6 := O.nq
  intro n
  induction n with
  | zero => intro q _; exact ⟨Nat.le_refl _, Nat.le_refl _⟩
  | succ n ih =>
    intro q hq
    have h1 := ih (q + 1) (by omega)
    have h2 := O.ch q ⟨by omega, by omega⟩
    rw [St.nrw, Nat.pow_succ']
    exact ⟨Nat.mul_pos (by omega) h1.1, Nat.mul_le_mul (by omega) h1.2⟩
theorem p46 {n : Nat} (h : n ≤ 6) : 4 ^ n ≤ 4096 := Nat.le_trans (Nat.pow_le_pow_right (by decide) h) (show 4 ^ 6 ≤ 4096 by decide)
def St.pk (A : St) : Nat → Nat → Nat → Int → Int
  | 0, _, _, p => p
  | n + 1, q, k, p => A.pk n (q + 1) (k % A.nrw n (q + 1)) (wa p q (k / A.nrw n (q + 1) : Nat))
theorem pk_q {A : St} (O : A.Ok) {n q k : Nat} (hq : q + (n + 1) = A.nq.toNat) (hk : k < A.nrw (n + 1) q) : inq A q ∧ 0 ≤ ((k / A.nrw n (q + 1) : Nat) : Int) ∧ ((k / A.nrw n (q + 1) : Nat) : Int) < A.ch q ∧ k % A.nrw n (q + 1) < A.nrw n (q + 1) := by
  have h6 := O.nq
  have h1 := nrw_r O n (q + 1) (by omega)
  have h2 := O.ch q ⟨by omega, by omega⟩
  rw [St.nrw] at hk
  refine ⟨⟨by omega, by omega⟩, Int.natCast_nonneg _, ?_, Nat.mod_lt _ (by omega)⟩
  have := Nat.div_lt_of_lt_mul (m := k) (n := A.nrw n (q + 1)) (k := (A.ch q).toNat) (by rw [Nat.mul_comm]; exact hk)
  omega
theorem pk_row {A : St} (O : A.Ok) : ∀ n q k p, q + n = A.nq.toNat → A.row p → k < A.nrw n q → A.row (A.pk n q k p) := by
  intro n
  induction n with
  | zero => intro q k p _ hp _; exact hp
  | succ n ih =>
    intro q k p hq hp hk
    obtain ⟨a1, a2, a3, a4⟩ := pk_q O hq hk
    rw [St.pk]
    exact ih (q + 1) _ _ (by omega) (row_wa O hp a1 ⟨a2, a3⟩) a4
theorem pk_lo {A : St} (O : A.Ok) : ∀ n q k p, q + n = A.nq.toNat → A.row p → k < A.nrw n q → ∀ j : Nat, j < q → dg (A.pk n q k p) j = dg p j := by
  have h6 := O.nq
  intro n
  induction n with
  | zero => intro q k p _ _ _ j _; rfl
  | succ n ih =>
    intro q k p hq hp hk j hj
    obtain ⟨a1, a2, a3, a4⟩ := pk_q O hq hk
    have c := O.ch q a1
    rw [St.pk, ih (q + 1) _ _ (by omega) (row_wa O hp a1 ⟨a2, a3⟩) a4 j (by omega)]
    exact wa_n hp.1 hp.2.1 (by omega) (by omega) a2 (by omega) (by omega) (by omega) (by omega)
theorem nrw_dvd (A : St) : ∀ n q m : Nat, m ≤ n → ∃ t, A.nrw n q = t * A.nrw m (q + (n - m)) := by
  intro n
  induction n with
  | zero => intro q m hm; have : m = 0 := by omega
            subst this; exact ⟨1, by rw [Nat.one_mul]; rfl⟩
  | succ n ih =>
    intro q m hm
    by_cases h : m = n + 1
    · subst h; exact ⟨1, by rw [Nat.one_mul, Nat.sub_self]; rfl⟩
    · obtain ⟨t, ht⟩ := ih (q + 1) m (by omega)
      refine ⟨(A.ch q).toNat * t, ?_⟩
      rw [St.nrw, ht, Nat.mul_assoc]
      congr 3
      omega
theorem pk_dg {A : St} (O : A.Ok) : ∀ n q k p, q + n = A.nq.toNat → A.row p → k < A.nrw n q → ∀ j : Nat, q ≤ j → j < q + n → dg (A.pk n q k p) j = ((k / A.nrw (q + n - 1 - j) (j + 1) % (A.ch j).toNat : Nat) : Int) := by
  have h6 := O.nq
  intro n
  induction n with
  | zero => intro q k p _ _ _ j h1 h2; omega
  | succ n ih =>
    intro q k p hq hp hk j h1 h2
    obtain ⟨a1, a2, a3, a4⟩ := pk_q O hq hk
    have c := O.ch q a1
    have hr := row_wa O hp a1 ⟨a2, a3⟩
    by_cases hj : j = q
    · subst hj
      rw [St.pk, pk_lo O n (j + 1) _ _ (by omega) hr a4 j (by omega), wa_e hp.1 hp.2.1 (by omega) (by omega) a2 (by omega)]
      rw [show j + (n + 1) - 1 - j = n by omega, Nat.mod_eq_of_lt (by omega)]
    · rw [St.pk, ih (q + 1) _ _ (by omega) hr a4 j (by omega) (by omega)]
      congr 1
      obtain ⟨t, ht⟩ := nrw_dvd A n (q + 1) (q + (n + 1) - 1 - j + 1) (by omega)
      have e1 : q + 1 + (n - (q + (n + 1) - 1 - j + 1)) = j := by omega
      have e2 : q + 1 + n - 1 - j = q + (n + 1) - 1 - j := by omega
      rw [e1, St.nrw] at ht
      rw [e2, ht]
      generalize A.nrw (q + (n + 1) - 1 - j) (j + 1) = r
      generalize (A.ch j).toNat = cc
      have e3 : t * (cc * r) = r * (cc * t) := by rw [← Nat.mul_assoc, Nat.mul_comm, Nat.mul_comm t cc]
      rw [e3, Nat.mod_mul_right_div_self]
      exact Nat.mod_mod_of_dvd _ ⟨t, rfl⟩
theorem prd_con {A : St} (O : A.Ok) (mf : Int) {p r : Int} : ∀ n : Nat, n ≤ A.nq.toNat → (∀ j : Nat, j < n → dg p j = dg r j) → A.prd mf p n = A.prd mf r n := by
  have h6 := O.nq
  intro n
  induction n with
  | zero => intro _ _; rfl
  | succ n ih =>
    intro hn H
    have hm : bit1 (if (n : Int) < mf then 0 else 1) := by split; exact Or.inl rfl; exact Or.inr rfl
    have hb := O.gb _ n hm ⟨by omega, by omega⟩
    rw [St.prd, St.prd, ih (by omega) (fun j hj => H j (by omega))]
    congr 1
    unfold St.wof
    rw [H n (by omega)]
    generalize (if (n : Int) < mf then (0 : Int) else 1) = m at *
    by_cases hz : A.gb m n = -1
    · rw [if_pos hz, if_pos hz]
    · rw [if_neg hz, if_neg hz]
      obtain ⟨b, hb2⟩ : ∃ b : Nat, A.gb m n = b := ⟨(A.gb m n).toNat, by omega⟩
      rw [hb2, H b (by omega)]
def St.tre (A : St) (f : Int → Int) : Nat → Nat → Int → Int → Int
  | 0, _, _, w => f w
  | n + 1, q, p, w => sumN (fun a => A.tre f n (q + 1) (wa p q a) (w * A.wof 0 (wa p q a) q)) (A.ch q).toNat
theorem tre_0 (A : St) {f : Int → Int} (h : f 0 = 0) : ∀ n q p, A.tre f n q p 0 = 0 := by
  intro n
  induction n with
  | zero => intro q p; exact h
  | succ n ih =>
    intro q p
    rw [St.tre]
    generalize (A.ch q).toNat = c
    induction c with
    | zero => rfl
    | succ c ic => rw [sumN, ic, Int.zero_mul, ih]; rfl
theorem prd_wa {A : St} (O : A.Ok) {q : Nat} {p a : Int} (hq : inq A q) (hp : A.row p) (ha : 0 ≤ a ∧ a < A.ch q) : A.prd A.nq p q * A.wof 0 (wa p q a) q = A.prd A.nq (wa p q a) (q + 1) := by
  have h6 := O.nq
  have h1 := hq.1
  have h2 := hq.2
  have c := O.ch q hq
  rw [St.prd, if_pos hq.2]
  congr 1
  exact prd_con O _ q (by omega) (fun j hj => (wa_n hp.1 hp.2.1 (by omega) (by omega) ha.1 (by omega) (by omega) (by omega) (by omega)).symm)
theorem tre_eq {A : St} (O : A.Ok) (f : Int → Int) : ∀ n q p, q + n = A.nq.toNat → A.row p → A.tre f n q p (A.prd A.nq p q) = sumN (fun k => f (A.prod A.nq (A.pk n q k p))) (A.nrw n q) := by
  have h6 := O.nq
  intro n
  induction n with
  | zero =>
    intro q p hq hp
    have hq : q = A.nq.toNat := by omega
    rw [St.nrw, sumN, sumN, St.tre, St.pk, hq, Int.zero_add]
    rfl
  | succ n ih =>
    intro q p hq hp
    have hi : inq A q := ⟨by omega, by omega⟩
    have c := O.ch q hi
    have r1 := nrw_r O n (q + 1) (by omega)
    rw [St.tre, St.nrw, sumN_mul]
    refine sumN_con _ (fun a ha => ?_)
    have ha2 : 0 ≤ (a : Int) ∧ (a : Int) < A.ch q := by omega
    rw [prd_wa O hi hp ha2, ih (q + 1) _ (by omega) (row_wa O hp hi ha2)]
    refine sumN_con _ (fun k hk => ?_)
    rw [St.pk]
    have e1 : (a * A.nrw n (q + 1) + k) % A.nrw n (q + 1) = k := by rw [Nat.mul_add_mod_self_right, Nat.mod_eq_of_lt hk]
    have e2 : (a * A.nrw n (q + 1) + k) / A.nrw n (q + 1) = a := by rw [Nat.mul_comm, Nat.mul_add_div (by omega), Nat.div_eq_of_lt hk, Nat.add_zero]
    rw [e1, e2]
theorem tre_r {A : St} (O : A.Ok) {f : Int → Int} {b : Int} (H : ∀ w, 0 ≤ w → w ≤ 16777216 → 0 ≤ f w ∧ f w ≤ b) : ∀ n q p, q + n = A.nq.toNat → A.row p → 0 ≤ A.tre f n q p (A.prd A.nq p q) ∧ A.tre f n q p (A.prd A.nq p q) ≤ 4 ^ n * b := by
  have h6 := O.nq
  have hb : 0 ≤ b := by have := H 0 (by decide) (by decide); omega
  intro n
  induction n with
  | zero =>
    intro q p hq hp
    have z := O.prd2 hp A.nq q (by omega)
    have y := H _ z.1 z.2
    rw [St.tre, Int.pow_zero, Int.one_mul]
    exact y
  | succ n ih =>
    intro q p hq hp
    have hi : inq A q := ⟨by omega, by omega⟩
    have c := O.ch q hi
    have s := sumN_r (g := fun a => A.tre f n (q + 1) (wa p q a) (A.prd A.nq p q * A.wof 0 (wa p q a) q)) (b := 4 ^ n * b) (A.ch q).toNat (fun a ha => by
      have ha2 : 0 ≤ (a : Int) ∧ (a : Int) < A.ch q := by omega
      show 0 ≤ A.tre f n (q + 1) (wa p q a) (A.prd A.nq p q * A.wof 0 (wa p q a) q) ∧ _
      rw [prd_wa O hi hp ha2]
      exact ih (q + 1) _ (by omega) (row_wa O hp hi ha2))
    rw [St.tre]
    refine ⟨s.1, Int.le_trans s.2 ?_⟩
    rw [Int.pow_succ, Int.mul_comm (4 ^ n) 4, Int.mul_assoc]
    exact Int.mul_le_mul_of_nonneg_right (by omega) (Int.mul_nonneg (Int.pow_nonneg (by decide)) hb)
