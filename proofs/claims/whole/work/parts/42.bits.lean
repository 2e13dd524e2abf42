/-! a digit of a packed row set -/
def bitq (M P : Int) : Prop := ∀ i : Nat, i < 64 → ∀ j : Nat, j < 64 → ∀ a : Nat, a < 4 → or32 (and32 ((64 * i + j : Nat) : Int) M) (w32 ((a : Int) * P)) = ((64 * i + j : Nat) : Int) - ((64 * i + j : Nat) : Int) / P % 4 * P + (a : Int) * P
theorem bit0 : bitq (-3073) 1024 := by unfold bitq; decide +kernel
theorem bit1_ : bitq (-769) 256 := by unfold bitq; decide +kernel
theorem bit2 : bitq (-193) 64 := by unfold bitq; decide +kernel
theorem bit3 : bitq (-49) 16 := by unfold bitq; decide +kernel
theorem bit4 : bitq (-13) 4 := by unfold bitq; decide +kernel
theorem bit5 : bitq (-4) 1 := by unfold bitq; decide +kernel
theorem bitq_at {M P : Int} (h : bitq M P) {p a : Int} (p0 : 0 ≤ p) (p1 : p < 4096) (a0 : 0 ≤ a) (a1 : a < 4) : or32 (and32 p M) (w32 (a * P)) = p - p / P % 4 * P + a * P := by
  have z := h (p.toNat / 64) (by omega) (p.toNat % 64) (by omega) a.toNat (by omega)
  have e1 : ((64 * (p.toNat / 64) + p.toNat % 64 : Nat) : Int) = p := by omega
  have e2 : ((a.toNat : Nat) : Int) = a := by omega
  rw [e1, e2] at z
  exact z
theorem msk : xor32 (shl32 3 10) (-1) = -3073 ∧ xor32 (shl32 3 8) (-1) = -769 ∧ xor32 (shl32 3 6) (-1) = -193 ∧ xor32 (shl32 3 4) (-1) = -49 ∧ xor32 (shl32 3 2) (-1) = -13 ∧ xor32 (shl32 3 0) (-1) = -4 := by decide +kernel
theorem w10 : w32 (10 - w32 (2 * 0)) = 10 ∧ w32 (10 - w32 (2 * 1)) = 8 ∧ w32 (10 - w32 (2 * 2)) = 6 ∧ w32 (10 - w32 (2 * 3)) = 4 ∧ w32 (10 - w32 (2 * 4)) = 2 ∧ w32 (10 - w32 (2 * 5)) = 0 := by decide +kernel
theorem S152 {d : Nat} {p q a : Int} {g : KG} {h : KH} {Q : Option KV → KG → KH → Prop} (p0 : 0 ≤ p) (p1 : p < 4096) (h0 : 0 ≤ q) (h6 : q < 6) (a0 : 0 ≤ a) (a1 : a < 4) : Cl (d + 1) 152 [xI p, xI q, xI a] g h Q = Q (some (xI (wa p q a))) g h := by
  obtain ⟨m0, m1, m2, m3, m4, m5⟩ := msk
  obtain ⟨v0, v1, v2, v3, v4, v5⟩ := w10
  rcases q6 h0 h6 with rfl | rfl | rfl | rfl | rfl | rfl
  · simp only [E152, v0, m0]
    rw [show shl32 a 10 = w32 (a * 1024) from rfl, bitq_at bit0 p0 p1 a0 a1]
    simp [wa, dg, p4]
  · simp only [E152, v1, m1]
    rw [show shl32 a 8 = w32 (a * 256) from rfl, bitq_at bit1_ p0 p1 a0 a1]
    simp [wa, dg, p4]
  · simp only [E152, v2, m2]
    rw [show shl32 a 6 = w32 (a * 64) from rfl, bitq_at bit2 p0 p1 a0 a1]
    simp [wa, dg, p4]
  · simp only [E152, v3, m3]
    rw [show shl32 a 4 = w32 (a * 16) from rfl, bitq_at bit3 p0 p1 a0 a1]
    simp [wa, dg, p4]
  · simp only [E152, v4, m4]
    rw [show shl32 a 2 = w32 (a * 4) from rfl, bitq_at bit4 p0 p1 a0 a1]
    simp [wa, dg, p4]
  · simp only [E152, v5, m5]
    rw [show shl32 a 0 = w32 (a * 1) from rfl, bitq_at bit5 p0 p1 a0 a1]
    simp [wa, dg, p4]
theorem wa_r {p q a : Int} (p0 : 0 ≤ p) (p1 : p < 4096) (h0 : 0 ≤ q) (h6 : q < 6) (a0 : 0 ≤ a) (a1 : a < 4) : 0 ≤ wa p q a ∧ wa p q a < 4096 := by
  rcases q6 h0 h6 with rfl | rfl | rfl | rfl | rfl | rfl <;> (simp only [wa, dg, p4]; simp; omega)
theorem wa_e {p q a : Int} (p0 : 0 ≤ p) (p1 : p < 4096) (h0 : 0 ≤ q) (h6 : q < 6) (a0 : 0 ≤ a) (a1 : a < 4) : dg (wa p q a) q = a := by
  rcases q6 h0 h6 with rfl | rfl | rfl | rfl | rfl | rfl <;> (simp only [wa, dg, p4]; simp; omega)
theorem wa_n {p q a k : Int} (p0 : 0 ≤ p) (p1 : p < 4096) (h0 : 0 ≤ q) (h6 : q < 6) (a0 : 0 ≤ a) (a1 : a < 4) (k0 : 0 ≤ k) (k6 : k < 6) (hk : k ≠ q) : dg (wa p q a) k = dg p k := by
  rcases q6 h0 h6 with rfl | rfl | rfl | rfl | rfl | rfl <;> rcases q6 k0 k6 with rfl | rfl | rfl | rfl | rfl | rfl <;> first | exact absurd rfl hk | (simp only [wa, dg, p4]; simp; done) | (simp only [wa, dg, p4]; simp; omega)
/-- rows are told by their digits -/
theorem row_eq {p r : Int} (p0 : 0 ≤ p) (p1 : p < 4096) (r0 : 0 ≤ r) (r1 : r < 4096) (h : ∀ q, 0 ≤ q → q < 6 → dg p q = dg r q) : p = r := by
  have h0 := h 0 (by decide) (by decide)
  have h1 := h 1 (by decide) (by decide)
  have h2 := h 2 (by decide) (by decide)
  have h3 := h 3 (by decide) (by decide)
  have h4 := h 4 (by decide) (by decide)
  have h5 := h 5 (by decide) (by decide)
  simp only [dg, p4] at h0 h1 h2 h3 h4 h5
  simp at h0 h1 h2 h3 h4 h5
  omega
