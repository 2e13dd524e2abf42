/-! TOKENS: words, numbers and signs of a text t of n bytes -/
def ltr (c : Int) : Bool := decide (97 ≤ c) && decide (c ≤ 122)
def dgt (c : Int) : Bool := decide (48 ≤ c) && decide (c ≤ 57)
def wsp (c : Int) : Bool := decide (c = 10) || decide (c = 32)
theorem ltr_i (c : Int) : (ltr c = true) = (97 ≤ c ∧ c ≤ 122) := by unfold ltr; simp
theorem dgt_i (c : Int) : (dgt c = true) = (48 ≤ c ∧ c ≤ 57) := by unfold dgt; simp
theorem wsp_i (c : Int) : (wsp c = true) = (c = 10 ∨ c = 32) := by unfold wsp; simp
def tkr (f : Int → Bool) (t : Int → Int) : Nat → Nat → Nat
  | 0, p => p
  | n + 1, p => if f (t p) = true then tkr f t n (p + 1) else p
def rnt (f : Int → Bool) (t : Int → Int) (n p : Nat) : Nat := tkr f t (n - p) p
theorem rnt_e {f : Int → Bool} {t : Int → Int} {n p : Nat} (h : n ≤ p) : rnt f t n p = p := by
  unfold rnt; rw [show n - p = 0 by omega]; rfl
theorem rnt_s {f : Int → Bool} {t : Int → Int} {n p : Nat} (h : p < n) : rnt f t n p = if f (t p) = true then rnt f t n (p + 1) else p := by
  unfold rnt; rw [show n - p = (n - (p + 1)) + 1 by omega]; rfl
theorem rnt_y {f : Int → Bool} {t : Int → Int} {n p : Nat} (h : p < n) (y : f (t p) = true) : rnt f t n p = rnt f t n (p + 1) := by
  rw [rnt_s h, if_pos y]
theorem rnt_n {f : Int → Bool} {t : Int → Int} {n p : Nat} (y : ¬ f (t p) = true) : rnt f t n p = p := by
  by_cases h : p < n
  · rw [rnt_s h, if_neg y]
  · exact rnt_e (by omega)
theorem rnt_r (f : Int → Bool) (t : Int → Int) {n : Nat} : ∀ m p : Nat, p + m = n → p ≤ rnt f t n p ∧ rnt f t n p ≤ n ∧ (∀ k, p ≤ k → k < rnt f t n p → f (t k) = true) ∧ (rnt f t n p < n → ¬ f (t (rnt f t n p)) = true) := by
  intro m
  induction m with
  | zero =>
    intro p hp
    rw [rnt_e (by omega)]
    exact ⟨by omega, by omega, fun k h1 h2 => by omega, fun z => by omega⟩
  | succ m ih =>
    intro p hp
    by_cases y : f (t p) = true
    · have i := ih (p + 1) (by omega)
      rw [rnt_y (by omega) y]
      refine ⟨by omega, i.2.1, fun k h1 h2 => ?_, i.2.2.2⟩
      by_cases e : k = p
      · rw [e]; exact y
      · exact i.2.2.1 k (by omega) h2
    · rw [rnt_n y]
      exact ⟨by omega, by omega, fun k h1 h2 => by omega, fun _ => y⟩
def skp (t : Int → Int) (n p : Nat) : Nat := rnt wsp t n p
def kd (t : Int → Int) (n p : Nat) : Int := if n ≤ p then 0 else if ltr (t p) = true then 1 else if dgt (t p) = true then (if 4 < rnt dgt t n p - p then 4 else 2) else if t p = 59 ∨ t p = 40 ∨ t p = 41 then 3 else 4
def ed (t : Int → Int) (n p : Nat) : Nat := if n ≤ p then p else if ltr (t p) = true then rnt ltr t n p else if dgt (t p) = true then rnt dgt t n p else p + 1
def pkw (t : Int → Int) (p : Nat) : Nat → Int
  | 0 => 0
  | k + 1 => pkw t p k * 256 + t ((p + k : Nat) : Int)
def dgv (t : Int → Int) (p : Nat) : Nat → Int
  | 0 => 0
  | k + 1 => dgv t p k * 10 + t ((p + k : Nat) : Int) - 48
/-- the word that stands here, 0 if none or too long -/
def wdv (t : Int → Int) (n p : Nat) : Int := if kd t n p = 1 ∧ rnt ltr t n p - p ≤ 8 then pkw t p (rnt ltr t n p - p) else 0
/-- the number or the sign -/
def nmv (t : Int → Int) (n p : Nat) : Int := if kd t n p = 2 then dgv t p (rnt dgt t n p - p) else t p
def nxt (t : Int → Int) (n p : Nat) : Nat := skp t n (ed t n p)
theorem skp_r (t : Int → Int) {n p : Nat} (h : p ≤ n) : p ≤ skp t n p ∧ skp t n p ≤ n := by
  have r := rnt_r wsp t (n := n) (n - p) p (by omega)
  exact ⟨r.1, r.2.1⟩
theorem ed_r (t : Int → Int) {n p : Nat} (h : p ≤ n) : p ≤ ed t n p ∧ ed t n p ≤ n ∧ (kd t n p ≠ 0 → p < ed t n p) := by
  unfold ed kd
  by_cases h1 : n ≤ p
  · rw [if_pos h1, if_pos h1]; omega
  · rw [if_neg h1, if_neg h1]
    by_cases h2 : ltr (t p) = true
    · rw [if_pos h2, if_pos h2, rnt_y (by omega) h2]
      have r := rnt_r ltr t (n := n) (n - (p + 1)) (p + 1) (by omega)
      exact ⟨by omega, r.2.1, fun _ => by omega⟩
    · rw [if_neg h2, if_neg h2]
      by_cases h3 : dgt (t p) = true
      · rw [if_pos h3, rnt_y (by omega) h3]
        have r := rnt_r dgt t (n := n) (n - (p + 1)) (p + 1) (by omega)
        exact ⟨by omega, r.2.1, fun _ => by omega⟩
      · rw [if_neg h3]
        exact ⟨by omega, by omega, fun _ => by omega⟩
theorem nxt_r (t : Int → Int) {n p : Nat} (h : p ≤ n) : p ≤ nxt t n p ∧ nxt t n p ≤ n ∧ (kd t n p ≠ 0 → p < nxt t n p) := by
  have e := ed_r t h
  have s := skp_r t (p := ed t n p) e.2.1
  unfold nxt
  exact ⟨by omega, s.2, fun z => by have := e.2.2 z; omega⟩
theorem kd_0 {t : Int → Int} {n p : Nat} (h : p ≤ n) : kd t n p = 0 → p = n := by
  unfold kd
  split
  · intro _; omega
  · split
    · intro z; omega
    · split
      · split <;> (intro z; omega)
      · split <;> (intro z; omega)
theorem kd_r (t : Int → Int) (n p : Nat) : 0 ≤ kd t n p ∧ kd t n p ≤ 4 := by
  unfold kd
  split
  · decide
  · split
    · decide
    · split
      · split <;> decide
      · split <;> decide
theorem pkw_r (t : Int → Int) (p : Nat) : ∀ k : Nat, (∀ i : Nat, i < k → 97 ≤ t ((p + i : Nat) : Int) ∧ t ((p + i : Nat) : Int) ≤ 122) → 0 ≤ pkw t p k ∧ 2 * pkw t p k < 256 ^ k := by
  intro k
  induction k with
  | zero => intro _; unfold pkw; decide
  | succ k ih =>
    intro h
    have i := ih (fun i hi => h i (by omega))
    have c := h k (by omega)
    have e : (256 : Int) ^ (k + 1) = 256 ^ k * 256 := Int.pow_succ _ _
    unfold pkw
    generalize (256 : Int) ^ k = y at *
    generalize t ((p + k : Nat) : Int) = z at *
    generalize pkw t p k = w at *
    omega
theorem p256 : ∀ k : Nat, k ≤ 8 → (256 : Int) ^ k ≤ 18446744073709551616 := by
  intro k hk
  have : ∀ k : Nat, k < 9 → (256 : Int) ^ k ≤ 18446744073709551616 := by decide
  exact this k (by omega)
theorem dgv_r (t : Int → Int) (p : Nat) : ∀ k : Nat, (∀ i : Nat, i < k → 48 ≤ t ((p + i : Nat) : Int) ∧ t ((p + i : Nat) : Int) ≤ 57) → 0 ≤ dgv t p k ∧ dgv t p k < 10 ^ k := by
  intro k
  induction k with
  | zero => intro _; unfold dgv; decide
  | succ k ih =>
    intro h
    have i := ih (fun i hi => h i (by omega))
    have c := h k (by omega)
    have e : (10 : Int) ^ (k + 1) = 10 ^ k * 10 := Int.pow_succ _ _
    unfold dgv
    generalize (10 : Int) ^ k = y at *
    generalize t ((p + k : Nat) : Int) = z at *
    generalize dgv t p k = w at *
    omega
theorem p10 : ∀ k : Nat, k ≤ 4 → (10 : Int) ^ k ≤ 10000 := by
  intro k hk
  have : ∀ k : Nat, k < 5 → (10 : Int) ^ k ≤ 10000 := by decide
  exact this k (by omega)
theorem of64 (a : Nat) : BitVec.ofInt 64 (a : Int) = BitVec.ofNat 64 a := by
  apply BitVec.eq_of_toNat_eq
  simp
theorem or_64 {w c : Int} (h0 : 0 ≤ w) (h1 : w ≤ 36028797018963967) (c0 : 0 ≤ c) (c1 : c < 256) : or64 (shl64 w 8) c = w * 256 + c := by
  obtain ⟨a, ha⟩ : ∃ a : Nat, w = (a : Int) := ⟨w.toNat, by omega⟩
  obtain ⟨b, hb⟩ : ∃ b : Nat, c = (b : Int) := ⟨c.toNat, by omega⟩
  subst ha hb
  have e : shl64 (a : Int) 8 = ((a * 256 : Nat) : Int) := by
    unfold shl64
    rw [show ((8 : Int).toNat) = 8 from rfl, show (2 : Int) ^ 8 = 256 by decide, w64_id (by omega) (by omega)]
    omega
  have e2 : a * 256 ||| b = a * 256 + b := by
    have := Nat.shiftLeft_add_eq_or_of_lt (i := 8) (b := b) (by omega) a
    rw [Nat.shiftLeft_eq] at this
    exact this.symm
  unfold or64
  rw [e, of64, of64, ← BitVec.ofNat_or, e2]
  rw [BitVec.toInt_eq_toNat_of_lt (by rw [BitVec.toNat_ofNat]; omega), BitVec.toNat_ofNat]
  omega
