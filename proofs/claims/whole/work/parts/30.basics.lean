/-! BASICS: conditions and guards in runs; the class's small helpers. -/
theorem ga {p X : Prop} (h : p) : (p ∧ X) = X := by simp [h]
theorem c64lt (a b : Int) : (cmp64 a b < 0) = (a < b) := by unfold cmp64; split <;> (try split) <;> simp <;> omega
theorem c64gt (a b : Int) : (0 < cmp64 a b) = (b < a) := by unfold cmp64; split <;> (try split) <;> simp <;> omega
theorem c64eq (a b : Int) : (cmp64 a b = 0) = (a = b) := by unfold cmp64; split <;> (try split) <;> simp <;> omega
theorem c64le (a b : Int) : (cmp64 a b ≤ 0) = (a ≤ b) := by unfold cmp64; split <;> (try split) <;> simp <;> omega
theorem c64ge (a b : Int) : (0 ≤ cmp64 a b) = (b ≤ a) := by unfold cmp64; split <;> (try split) <;> simp <;> omega
/-- a truth as an int -/
def bz (p : Prop) [Decidable p] : Int := if p then 1 else 0
theorem bz0 {p : Prop} [Decidable p] : (bz p = 0) = ¬ p := by unfold bz; by_cases h : p <;> simp [h]
theorem bz1 {p : Prop} [Decidable p] : (bz p = 1) = p := by unfold bz; by_cases h : p <;> simp [h]
theorem bzr {p : Prop} [Decidable p] : (0 ≤ bz p ∧ bz p ≤ 1) := by unfold bz; by_cases h : p <;> simp [h]
theorem bzt {p : Prop} [Decidable p] (h : p) : bz p = 1 := by unfold bz; simp [h]
theorem bzf {p : Prop} [Decidable p] (h : ¬ p) : bz p = 0 := by unfold bz; simp [h]
theorem bzc {p q : Prop} [Decidable p] [Decidable q] (h : p ↔ q) : bz p = bz q := by unfold bz; by_cases hp : p <;> by_cases hq : q <;> simp_all
theorem bzF {i : Decidable False} : @bz False i = 0 := by unfold bz; simp
theorem bzT {i : Decidable True} : @bz True i = 1 := by unfold bz; simp
theorem hset_e (h : KH) (a i v : Int) : hset h a i v a i = v := by simp [hset]
theorem hset_i {a b i j : Int} (h : KH) (v : Int) (q : j ≠ i) : hset h a i v b j = h b j := by simp [hset, q]
theorem hset_a {a b : Int} (h : KH) (i v : Int) (q : b ≠ a) : hset h a i v b = h b := by funext j; simp [hset, q]
theorem o1 {r : KV} : (some r).toList = [r] := rfl
theorem o0 : (none : Option KV).toList = [] := rfl
theorem g01 {X : Prop} : (((0 : Int) ≤ 0 ∧ (0 : Int) ≤ 1) ∧ X) = X := by simp
theorem g11 {X : Prop} : (((0 : Int) ≤ 1 ∧ (1 : Int) ≤ 1) ∧ X) = X := by simp
theorem S146 (d : Nat) (n l m : Int) (g : KG) (h : KH) (Q : Option KV → KG → KH → Prop) : Cl (d + 1) 146 [xL n, xL l, xL m] g h Q = Q (some (xI (bz (l ≤ n ∧ n ≤ m)))) g h := by
  simp only [E146, B146_17, B146_18, c64lt, c64gt]
  by_cases h1 : n < l
  · rw [if_pos h1, bzf (by omega)]; simp
  · rw [if_neg h1]
    by_cases h2 : m < n
    · rw [if_pos h2, bzf (by omega)]; simp
    · rw [if_neg h2, bzt (by omega)]; simp
theorem S139 (d : Nat) (x t : Int) (g : KG) (h : KH) (Q : Option KV → KG → KH → Prop) : Cl (d + 2) 139 [xR x, xI t] g h Q = Q (some (xI (bz (0 ≤ t ∧ t ≤ 3)))) g h := by
  simp only [E139, B139_9, S146, o1, List.cons_append, List.nil_append, ga bzr]
theorem S145 (d : Nat) (t : Int) (g : KG) (h : KH) (Q : Option KV → KG → KH → Prop) : Cl (d + 2) 145 [xI t] g h Q = Q (some (xI (bz (0 ≤ t ∧ t ≤ 3)))) g h := by
  simp only [E145, B145_9, S146, o1, List.cons_append, List.nil_append, ga bzr]
theorem S133 (d : Nat) (x w : Int) (g : KG) (h : KH) (Q : Option KV → KG → KH → Prop) (k : gK g x = 11) : Cl (d + 1) 133 [xR x, xI w] g h Q = Q (some (xI (-1))) g (hset h x 11 w) := by
  simp only [E133, k, true_and]
theorem S134 (d : Nat) (x w : Int) (g : KG) (h : KH) (Q : Option KV → KG → KH → Prop) (k : gK g x = 11) : Cl (d + 1) 134 [xR x, xI w] g h Q = Q (some (xI 0)) g (hset h x 11 w) := by
  simp only [E134, k, true_and, g01]
theorem S135 (d : Nat) (x w : Int) (g : KG) (h : KH) (Q : Option KV → KG → KH → Prop) (k : gK g x = 11) : Cl (d + 1) 135 [xR x, xI w] g h Q = Q (some (xI w)) g (hset h x 11 0) := by
  simp only [E135, k, true_and]
theorem S136 (d : Nat) (x : Int) (g : KG) (h : KH) (Q : Option KV → KG → KH → Prop) (k : gK g x = 11) : Cl (d + 1) 136 [xR x] g h Q = Q (some (xI 1)) g (hset h x 11 0) := by
  simp only [E136, k, true_and, g11]
/-! packed rows of answers: question q's digit -/
def p4 (q : Int) : Int := if q = 0 then 1024 else if q = 1 then 256 else if q = 2 then 64 else if q = 3 then 16 else if q = 4 then 4 else 1
def dg (p q : Int) : Int := p / p4 q % 4
theorem dg_r (p q : Int) : 0 ≤ dg p q ∧ dg p q < 4 := by unfold dg; omega
theorem and3 (x : Int) : and32 x 3 = x % 4 := by
  unfold and32
  have e : BitVec.ofInt 32 x &&& BitVec.ofInt 32 3 = BitVec.ofInt 32 (x % 4) := by
    apply BitVec.eq_of_toNat_eq
    rw [BitVec.toNat_and]
    have h3 : (BitVec.ofInt 32 3).toNat = 2 ^ 2 - 1 := by decide
    rw [h3, Nat.and_two_pow_sub_one_eq_mod]
    simp only [BitVec.toNat_ofInt]
    omega
  rw [e]
  rw [BitVec.toInt_ofInt]
  have := Int.emod_nonneg x (show (4 : Int) ≠ 0 by decide)
  have := Int.emod_lt_of_pos x (show (0 : Int) < 4 by decide)
  rw [Int.bmod_eq_of_le] <;> omega
theorem q6 {q : Int} (h0 : 0 ≤ q) (h6 : q < 6) : q = 0 ∨ q = 1 ∨ q = 2 ∨ q = 3 ∨ q = 4 ∨ q = 5 := by omega
theorem S151 {d : Nat} {p q : Int} {g : KG} {h : KH} {Q : Option KV → KG → KH → Prop} (h0 : 0 ≤ q) (h6 : q < 6) : Cl (d + 1) 151 [xI p, xI q] g h Q = Q (some (xI (dg p q))) g h := by
  rcases q6 h0 h6 with rfl | rfl | rfl | rfl | rfl | rfl <;> (simp only [E151, and3, shr32, dg, p4]; simp [w32])
theorem S154 {d : Nat} {q r a : Int} {g : KG} {h : KH} {Q : Option KV → KG → KH → Prop} (h0 : 0 ≤ q) (h6 : q < 6) (r0 : 0 ≤ r) (r4 : r < 4) (a0 : 0 ≤ a) (a4 : a < 4) : Cl (d + 1) 154 [xI q, xI r, xI a] g h Q = Q (some (xI (16 * q + 4 * r + a))) g h := by
  simp only [E154]
  have : w32 (w32 (w32 (w32 (q * 4) + r) * 4) + a) = 16 * q + 4 * r + a := by unfold w32; omega
  rw [this]
def wa (p q a : Int) : Int := p - dg p q * p4 q + a * p4 q
theorem S22 {d : Nat} {x s y : Int} {g : KG} {h : KH} {Q : Option KV → KG → KH → Prop} (hy : 0 ≤ y ∧ y ≤ 16) : Cl (d + 1) 22 [xR x, xI s, xI y] g h Q = Q (some (xI (if s = 0 then 16 else if s = 1 then y else 16 - y))) g h := by
  have e : w32 (16 - y) = 16 - y := by unfold w32; omega
  simp only [E22, B22_20, e]
  by_cases h1 : s = 0 <;> by_cases h2 : s = 1 <;> simp [h1, h2]
