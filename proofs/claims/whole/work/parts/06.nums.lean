/-! NUMBERS: the machine's numbers of 32 and 64 bits, and whole numbers in their ranges. -/
def in32 (a : Int) : Prop := -2147483648 ≤ a ∧ a ≤ 2147483647
def in64 (a : Int) : Prop := -9223372036854775808 ≤ a ∧ a ≤ 9223372036854775807
theorem w32_in (x : Int) : in32 (w32 x) := by unfold in32 w32; omega
theorem w64_in (x : Int) : in64 (w64 x) := by unfold in64 w64; omega
theorem w32_id {x : Int} (h1 : -2147483648 ≤ x) (h2 : x ≤ 2147483647) : w32 x = x := by unfold w32; omega
theorem w64_id {x : Int} (h1 : -9223372036854775808 ≤ x) (h2 : x ≤ 9223372036854775807) : w64 x = x := by unfold w64; omega
theorem w32_of {x : Int} (h : in32 x) : w32 x = x := w32_id h.1 h.2
theorem w64_of {x : Int} (h : in64 x) : w64 x = x := w64_id h.1 h.2
theorem bm32 (x : Int) : x.bmod (2 ^ 32) = w32 x := by
  have e : (2 : Nat) ^ 32 = 4294967296 := by decide
  rw [e, Int.bmod_def]
  unfold w32
  split <;> omega
theorem bm64 (x : Int) : x.bmod (2 ^ 64) = w64 x := by
  have e : (2 : Nat) ^ 64 = 18446744073709551616 := by decide
  rw [e, Int.bmod_def]
  unfold w64
  split <;> omega
theorem o32_toInt (x : Int) : (Int32.ofInt x).toInt = w32 x := by rw [Int32.toInt_ofInt]; exact bm32 x
theorem o64_toInt (x : Int) : (Int64.ofInt x).toInt = w64 x := by rw [Int64.toInt_ofInt]; exact bm64 x
theorem o32_eq {x y : Int} (h : w32 x = w32 y) : Int32.ofInt x = Int32.ofInt y := Int32.toInt_inj.mp (by rw [o32_toInt, o32_toInt, h])
theorem o64_eq {x y : Int} (h : w64 x = w64 y) : Int64.ofInt x = Int64.ofInt y := Int64.toInt_inj.mp (by rw [o64_toInt, o64_toInt, h])
theorem o32_of {x : Int32} {y : Int} (h : x.toInt = w32 y) : x = Int32.ofInt y := Int32.toInt_inj.mp (by rw [h, o32_toInt])
theorem o64_of {x : Int64} {y : Int} (h : x.toInt = w64 y) : x = Int64.ofInt y := Int64.toInt_inj.mp (by rw [h, o64_toInt])
theorem o32_w (x : Int) : Int32.ofInt (w32 x) = Int32.ofInt x := o32_eq (w32_of (w32_in x))
theorem o64_w (x : Int) : Int64.ofInt (w64 x) = Int64.ofInt x := o64_eq (w64_of (w64_in x))
theorem o32_in {a : Int} (h : in32 a) : (Int32.ofInt a).toInt = a := by rw [o32_toInt, w32_of h]
theorem o64_in {a : Int} (h : in64 a) : (Int64.ofInt a).toInt = a := by rw [o64_toInt, w64_of h]
section ARITH
variable {a b : Int}
theorem o32_add (ha : in32 a) (hb : in32 b) : Int32.ofInt a + Int32.ofInt b = Int32.ofInt (w32 (a + b)) := by
  rw [o32_w]; apply o32_of; rw [Int32.toInt_add, o32_in ha, o32_in hb]; exact bm32 _
theorem o32_sub (ha : in32 a) (hb : in32 b) : Int32.ofInt a - Int32.ofInt b = Int32.ofInt (w32 (a - b)) := by
  rw [o32_w]; apply o32_of; rw [Int32.toInt_sub, o32_in ha, o32_in hb]; exact bm32 _
theorem o32_mul (ha : in32 a) (hb : in32 b) : Int32.ofInt a * Int32.ofInt b = Int32.ofInt (w32 (a * b)) := by
  rw [o32_w]; apply o32_of; rw [Int32.toInt_mul, o32_in ha, o32_in hb]; exact bm32 _
theorem o32_div (ha : in32 a) (hb : in32 b) : Int32.ofInt a / Int32.ofInt b = Int32.ofInt (w32 (Int.tdiv a b)) := by
  rw [o32_w]; apply o32_of; rw [Int32.toInt_div, o32_in ha, o32_in hb]; exact bm32 _
theorem tmod_le0 (h : 0 ≤ a) : Int.tmod a b ≤ a := by
  obtain ⟨m, rfl⟩ := Int.eq_ofNat_of_zero_le h
  cases b with
  | ofNat n => exact Int.ofNat_le.mpr (Nat.mod_le _ _)
  | negSucc n => exact Int.ofNat_le.mpr (Nat.mod_le _ _)
theorem tmod_in32 (ha : in32 a) : in32 (Int.tmod a b) := by
  unfold in32 at ha ⊢
  rcases Int.le_total 0 a with h | h
  · have h1 := Int.tmod_nonneg b h
    have h2 := tmod_le0 (b := b) h
    omega
  · have h1 := Int.tmod_nonneg b (show 0 ≤ -a by omega)
    have h2 := tmod_le0 (b := b) (show 0 ≤ -a by omega)
    rw [Int.neg_tmod] at h1 h2
    omega
theorem tmod_in64 (ha : in64 a) : in64 (Int.tmod a b) := by
  unfold in64 at ha ⊢
  rcases Int.le_total 0 a with h | h
  · have h1 := Int.tmod_nonneg b h
    have h2 := tmod_le0 (b := b) h
    omega
  · have h1 := Int.tmod_nonneg b (show 0 ≤ -a by omega)
    have h2 := tmod_le0 (b := b) (show 0 ≤ -a by omega)
    rw [Int.neg_tmod] at h1 h2
    omega
theorem o32_rem (ha : in32 a) (hb : in32 b) : Int32.ofInt a - Int32.ofInt a / Int32.ofInt b * Int32.ofInt b = Int32.ofInt (Int.tmod a b) := by
  apply o32_of; rw [rem_toInt, o32_in ha, o32_in hb, w32_of (tmod_in32 ha)]
theorem o64_add (ha : in64 a) (hb : in64 b) : Int64.ofInt a + Int64.ofInt b = Int64.ofInt (w64 (a + b)) := by
  rw [o64_w]; apply o64_of; rw [Int64.toInt_add, o64_in ha, o64_in hb]; exact bm64 _
theorem o64_sub (ha : in64 a) (hb : in64 b) : Int64.ofInt a - Int64.ofInt b = Int64.ofInt (w64 (a - b)) := by
  rw [o64_w]; apply o64_of; rw [Int64.toInt_sub, o64_in ha, o64_in hb]; exact bm64 _
theorem o64_mul (ha : in64 a) (hb : in64 b) : Int64.ofInt a * Int64.ofInt b = Int64.ofInt (w64 (a * b)) := by
  rw [o64_w]; apply o64_of; rw [Int64.toInt_mul, o64_in ha, o64_in hb]; exact bm64 _
theorem o64_div (ha : in64 a) (hb : in64 b) : Int64.ofInt a / Int64.ofInt b = Int64.ofInt (w64 (Int.tdiv a b)) := by
  rw [o64_w]; apply o64_of; rw [Int64.toInt_div, o64_in ha, o64_in hb]; exact bm64 _
theorem o32_lt (ha : in32 a) (hb : in32 b) : Int32.ofInt a < Int32.ofInt b ↔ a < b := by rw [Int32.lt_iff_toInt_lt, o32_in ha, o32_in hb]
theorem o32_le (ha : in32 a) (hb : in32 b) : Int32.ofInt a ≤ Int32.ofInt b ↔ a ≤ b := by rw [Int32.le_iff_toInt_le, o32_in ha, o32_in hb]
theorem o32_inj (ha : in32 a) (hb : in32 b) : Int32.ofInt a = Int32.ofInt b ↔ a = b := by rw [← Int32.toInt_inj, o32_in ha, o32_in hb]
theorem o64_lt (ha : in64 a) (hb : in64 b) : Int64.ofInt a < Int64.ofInt b ↔ a < b := by rw [Int64.lt_iff_toInt_lt, o64_in ha, o64_in hb]
theorem o64_inj (ha : in64 a) (hb : in64 b) : Int64.ofInt a = Int64.ofInt b ↔ a = b := by rw [← Int64.toInt_inj, o64_in ha, o64_in hb]
theorem in32_0 : in32 0 := by unfold in32; omega
theorem in64_0 : in64 0 := by unfold in64; omega
theorem o32_and : Int32.ofInt a &&& Int32.ofInt b = Int32.ofInt (and32 a b) := by
  apply Int32.toBitVec_inj.mp
  rw [Int32.toBitVec_and]
  show BitVec.ofInt 32 a &&& BitVec.ofInt 32 b = BitVec.ofInt 32 (and32 a b)
  unfold and32; rw [BitVec.ofInt_toInt]
theorem o32_or : Int32.ofInt a ||| Int32.ofInt b = Int32.ofInt (or32 a b) := by
  apply Int32.toBitVec_inj.mp
  rw [Int32.toBitVec_or]
  show BitVec.ofInt 32 a ||| BitVec.ofInt 32 b = BitVec.ofInt 32 (or32 a b)
  unfold or32; rw [BitVec.ofInt_toInt]
theorem o32_xor : Int32.ofInt a ^^^ Int32.ofInt b = Int32.ofInt (xor32 a b) := by
  apply Int32.toBitVec_inj.mp
  rw [Int32.toBitVec_xor]
  show BitVec.ofInt 32 a ^^^ BitVec.ofInt 32 b = BitVec.ofInt 32 (xor32 a b)
  unfold xor32; rw [BitVec.ofInt_toInt]
theorem o64_and : Int64.ofInt a &&& Int64.ofInt b = Int64.ofInt (and64 a b) := by
  apply Int64.toBitVec_inj.mp
  rw [Int64.toBitVec_and]
  show BitVec.ofInt 64 a &&& BitVec.ofInt 64 b = BitVec.ofInt 64 (and64 a b)
  unfold and64; rw [BitVec.ofInt_toInt]
theorem o64_or : Int64.ofInt a ||| Int64.ofInt b = Int64.ofInt (or64 a b) := by
  apply Int64.toBitVec_inj.mp
  rw [Int64.toBitVec_or]
  show BitVec.ofInt 64 a ||| BitVec.ofInt 64 b = BitVec.ofInt 64 (or64 a b)
  unfold or64; rw [BitVec.ofInt_toInt]
theorem o64_xor : Int64.ofInt a ^^^ Int64.ofInt b = Int64.ofInt (xor64 a b) := by
  apply Int64.toBitVec_inj.mp
  rw [Int64.toBitVec_xor]
  show BitVec.ofInt 64 a ^^^ BitVec.ofInt 64 b = BitVec.ofInt 64 (xor64 a b)
  unfold xor64; rw [BitVec.ofInt_toInt]
theorem bv32_in (x : BitVec 32) : in32 x.toInt := by
  have h1 := @BitVec.toInt_lt 32 x
  have h2 := @BitVec.le_toInt 32 x
  unfold in32
  omega
theorem bv64_in (x : BitVec 64) : in64 x.toInt := by
  have h1 := @BitVec.toInt_lt 64 x
  have h2 := @BitVec.le_toInt 64 x
  unfold in64
  omega
theorem o32_nat (ha : in32 a) (h : 0 ≤ a) : Int32.ofInt a = nI a.toNat := by
  apply Int32.toInt_inj.mp
  unfold in32 at ha
  rw [o32_in ha, nI_toInt (by omega)]
  omega
theorem o32_clamp (ha : in32 a) (h : 0 ≤ a) : (Int32.ofInt a).toNatClampNeg = a.toNat := by
  unfold in32 at ha
  rw [o32_nat ha h, nI_clamp (by omega)]
theorem o32_vp {n : Nat} (ha : in32 a) (h : 0 ≤ a) (hn : a < n) : vp_in (Int32.ofInt a) n := by
  rw [vp_in_iff, o32_in ha]
  exact ⟨h, hn⟩
theorem c31 : ∀ k, k < 32 → (nI k &&& 31) = nI k := by decide +kernel
theorem c31m : ∀ k, k < 32 → ((nI k).toBitVec.smod 32).toNat = k := by decide +kernel
theorem c31u : ∀ k, k < 32 → (((nI k).toUInt32 &&& Int32.toUInt32 31).toBitVec % 32).toNat = k := by decide +kernel
theorem c63 : ∀ k, k < 64 → ((nI k).toInt64 &&& 63) = Int64.ofNat k := by decide +kernel
theorem c63m : ∀ k, k < 64 → ((Int64.ofNat k).toBitVec.smod 64).toNat = k := by decide +kernel
theorem bvn32 (a : Int) : ((BitVec.ofInt 32 a).toNat : Int) = a % 4294967296 := by
  rw [BitVec.toNat_ofInt]
  have e : ((2 ^ 32 : Nat) : Int) = 4294967296 := by decide
  rw [e]
  omega
theorem bvn64 (a : Int) : ((BitVec.ofInt 64 a).toNat : Int) = a % 18446744073709551616 := by
  rw [BitVec.toNat_ofInt]
  have e : ((2 ^ 64 : Nat) : Int) = 18446744073709551616 := by decide
  rw [e]
  omega
theorem o32_bv (x : Int) : (Int32.ofInt x).toBitVec = BitVec.ofInt 32 x := rfl
theorem o64_bv (x : Int) : (Int64.ofInt x).toBitVec = BitVec.ofInt 64 x := rfl
theorem o32_shl (hb : in32 b) (h0 : 0 ≤ b) (h1 : b < 32) : Int32.ofInt a <<< (Int32.ofInt b &&& 31) = Int32.ofInt (shl32 a b) := by
  have hk : b.toNat < 32 := by omega
  rw [o32_nat hb h0, c31 _ hk]
  unfold shl32
  rw [o32_w]
  apply Int32.toBitVec_inj.mp
  apply BitVec.eq_of_toNat_eq
  rw [pk_shl _ _ _ (c31m _ hk), o32_bv, o32_bv]
  apply Int.ofNat_inj.mp
  have e : ((2 ^ 32 : Nat) : Int) = 4294967296 := by decide
  rw [bvn32, Int.natCast_emod, Int.natCast_mul, bvn32, Int.natCast_pow, e, Int.mul_emod, Int.emod_emod, ← Int.mul_emod]
  rfl
theorem o32_shr (ha : in32 a) (hb : in32 b) (h0 : 0 ≤ b) (h1 : b < 32) : Int32.ofInt a >>> (Int32.ofInt b &&& 31) = Int32.ofInt (shr32 a b) ∧ in32 (shr32 a b) := by
  have hk : b.toNat < 32 := by omega
  have hp : (0 : Int) < 2 ^ b.toNat := Int.pow_pos (by decide)
  have hin : in32 (shr32 a b) := by
    unfold shr32 in32 at *
    have h2 := Int.le_ediv_of_mul_le hp (show (-2147483648 : Int) * 2 ^ b.toNat ≤ a by
      have : (-2147483648 : Int) * 2 ^ b.toNat ≤ -2147483648 * 1 := Int.mul_le_mul_of_nonpos_left (by decide) (by omega)
      omega)
    refine ⟨h2, ?_⟩
    have : a / 2 ^ b.toNat ≤ 2147483647 / 1 := by
      rcases Int.le_total 0 a with h | h
      · have := Int.ediv_le_self (2 ^ b.toNat) h
        omega
      · have h3 := Int.ediv_le_ediv (c := (2 : Int) ^ b.toNat) hp h
        rw [Int.zero_ediv] at h3
        omega
    omega
  refine ⟨?_, hin⟩
  rw [o32_nat hb h0, c31 _ hk]
  apply o32_of
  rw [pk_shr _ _ _ (c31m _ hk), o32_in ha, w32_of hin, Int.shiftRight_eq_div_pow]
  unfold shr32
  rw [Int.natCast_pow]
  rfl
theorem o32_ushr (hb : in32 b) (h0 : 0 ≤ b) (h1 : b < 32) : ((Int32.ofInt a).toUInt32 >>> ((Int32.ofInt b).toUInt32 &&& Int32.toUInt32 31)).toInt32 = Int32.ofInt (ushr32 a b) := by
  have hk : b.toNat < 32 := by omega
  rw [o32_nat hb h0]
  unfold ushr32
  rw [o32_w]
  apply Int32.toBitVec_inj.mp
  apply BitVec.eq_of_toNat_eq
  rw [pk_ushr _ _ _ (c31u _ hk), o32_bv, o32_bv]
  apply Int.ofNat_inj.mp
  rw [bvn32, Int.natCast_ediv, bvn32, Int.natCast_pow]
  have hp : (0 : Int) < 2 ^ b.toNat := Int.pow_pos (by decide)
  have q0 : 0 ≤ a % 4294967296 := Int.emod_nonneg _ (by decide)
  have q1 : a % 4294967296 < 4294967296 := Int.emod_lt_of_pos _ (by decide)
  have q2 : 0 ≤ a % 4294967296 / 2 ^ b.toNat := Int.ediv_nonneg q0 (by omega)
  have q3 := Int.ediv_le_self (2 ^ b.toNat) q0
  have e2 : ((2 : Nat) : Int) = 2 := rfl
  rw [e2, Int.emod_eq_of_lt q2 (by omega)]
theorem o64_shl (hb : in32 b) (h0 : 0 ≤ b) (h1 : b < 64) : Int64.ofInt a <<< ((Int32.ofInt b).toInt64 &&& 63) = Int64.ofInt (shl64 a b) := by
  have hk : b.toNat < 64 := by omega
  rw [o32_nat hb h0, c63 _ hk]
  unfold shl64
  rw [o64_w]
  apply Int64.toBitVec_inj.mp
  apply BitVec.eq_of_toNat_eq
  rw [Int64.toBitVec_shiftLeft, o64_bv, o64_bv]
  have e : (Int64.ofNat b.toNat).toBitVec.smod 64 = BitVec.ofNat 64 b.toNat := by
    apply BitVec.eq_of_toNat_eq
    rw [c63m _ hk, BitVec.toNat_ofNat, Nat.mod_eq_of_lt (by omega)]
  rw [e]
  show ((BitVec.ofInt 64 a) <<< (BitVec.ofNat 64 b.toNat)).toNat = _
  rw [BitVec.shiftLeft_eq', BitVec.toNat_shiftLeft, BitVec.toNat_ofNat, Nat.mod_eq_of_lt (show b.toNat < 2 ^ 64 by omega), Nat.shiftLeft_eq]
  apply Int.ofNat_inj.mp
  have e : ((2 ^ 64 : Nat) : Int) = 18446744073709551616 := by decide
  rw [bvn64, Int.natCast_emod, Int.natCast_mul, bvn64, Int.natCast_pow, e, Int.mul_emod, Int.emod_emod, ← Int.mul_emod]
  rfl
theorem o64_shr (ha : in64 a) (hb : in32 b) (h0 : 0 ≤ b) (h1 : b < 64) : Int64.ofInt a >>> ((Int32.ofInt b).toInt64 &&& 63) = Int64.ofInt (shr64 a b) ∧ in64 (shr64 a b) := by
  have hk : b.toNat < 64 := by omega
  have hp : (0 : Int) < 2 ^ b.toNat := Int.pow_pos (by decide)
  have hin : in64 (shr64 a b) := by
    unfold shr64 in64 at *
    have h2 := Int.le_ediv_of_mul_le hp (show (-9223372036854775808 : Int) * 2 ^ b.toNat ≤ a by
      have : (-9223372036854775808 : Int) * 2 ^ b.toNat ≤ -9223372036854775808 * 1 := Int.mul_le_mul_of_nonpos_left (by decide) (by omega)
      omega)
    refine ⟨h2, ?_⟩
    have : a / 2 ^ b.toNat ≤ 9223372036854775807 / 1 := by
      rcases Int.le_total 0 a with h | h
      · have := Int.ediv_le_self (2 ^ b.toNat) h
        omega
      · have h3 := Int.ediv_le_ediv (c := (2 : Int) ^ b.toNat) hp h
        rw [Int.zero_ediv] at h3
        omega
    omega
  refine ⟨?_, hin⟩
  rw [o32_nat hb h0, c63 _ hk]
  apply o64_of
  have e : (Int64.ofInt a >>> Int64.ofNat b.toNat).toInt = (Int64.ofInt a).toInt >>> b.toNat := by
    have q : (Int64.ofInt a >>> Int64.ofNat b.toNat).toInt = (Int64.ofInt a).toInt >>> ((Int64.ofNat b.toNat).toBitVec.smod 64).toNat := BitVec.toInt_sshiftRight ..
    rw [q, c63m _ hk]
  rw [e]
  rw [o64_in ha, w64_of hin, Int.shiftRight_eq_div_pow]
  unfold shr64
  rw [Int.natCast_pow]
  rfl
theorem o_i2l (ha : in32 a) : (Int32.ofInt a).toInt64 = Int64.ofInt a := by
  apply o64_of
  rw [Int32.toInt_toInt64, o32_in ha]
  unfold in32 at ha
  exact (w64_id (by omega) (by omega)).symm
theorem o_l2i (ha : in64 a) : (Int64.ofInt a).toInt32 = Int32.ofInt (w32 a) := by
  rw [o32_w]; apply o32_of; rw [Int64.toInt_toInt32, o64_in ha]; exact bm32 _
theorem o_i2b (ha : in32 a) : (Int32.ofInt a).toInt8.toInt32 = Int32.ofInt (w8 a) ∧ in32 (w8 a) := by
  have h1 : in32 (w8 a) := by unfold in32 w8; omega
  refine ⟨?_, h1⟩
  apply o32_of
  rw [Int8.toInt_toInt32, Int32.toInt_toInt8, o32_in ha, w32_of h1]
  have e : (2 : Nat) ^ 8 = 256 := by decide
  rw [e, Int.bmod_def]
  unfold w8
  split <;> omega
theorem o_i2s (ha : in32 a) : (Int32.ofInt a).toInt16.toInt32 = Int32.ofInt (w16 a) ∧ in32 (w16 a) := by
  have h1 : in32 (w16 a) := by unfold in32 w16; omega
  refine ⟨?_, h1⟩
  apply o32_of
  rw [Int16.toInt_toInt32, Int32.toInt_toInt16, o32_in ha, w32_of h1]
  have e : (2 : Nat) ^ 16 = 65536 := by decide
  rw [e, Int.bmod_def]
  unfold w16
  split <;> omega
theorem o_cmp (ha : in64 a) (hb : in64 b) : lg_cmp (Int64.ofInt a) (Int64.ofInt b) = Int32.ofInt (cmp64 a b) ∧ in32 (cmp64 a b) := by
  unfold lg_cmp cmp64
  have h1 : (Int64.ofInt a > Int64.ofInt b) ↔ b < a := o64_lt hb ha
  have h2 : (Int64.ofInt a = Int64.ofInt b) ↔ a = b := o64_inj ha hb
  by_cases c1 : b < a
  · rw [if_pos (h1.mpr c1), if_pos c1]; exact ⟨rfl, by unfold in32; omega⟩
  · rw [if_neg (fun q => c1 (h1.mp q)), if_neg c1]
    by_cases c2 : a = b
    · rw [if_pos (h2.mpr c2), if_pos c2]; exact ⟨rfl, by unfold in32; omega⟩
    · rw [if_neg (fun q => c2 (h2.mp q)), if_neg c2]; exact ⟨rfl, by unfold in32; omega⟩
end ARITH
