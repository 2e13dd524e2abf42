/-! how many bits of a number are ones -/
def popf : Nat → Nat → Nat
  | 0, _ => 0
  | k + 1, v => v % 2 + popf k (v / 2)
theorem popf_le : ∀ k v, popf k v ≤ k := by
  intro k
  induction k with
  | zero => intro v; exact Nat.le_refl 0
  | succ k ih =>
    intro v
    have := ih (v / 2)
    unfold popf
    omega
theorem popf_0 : ∀ k, popf k 0 = 0 := by
  intro k
  induction k with
  | zero => rfl
  | succ k ih => unfold popf; rw [Nat.zero_div, ih]
theorem popf_add (m : Nat) : ∀ n v, popf (n + m) v = popf n v + popf m (v / 2 ^ n) := by
  intro n
  induction n with
  | zero => intro v; rw [Nat.zero_add, Nat.pow_zero, Nat.div_one]; exact (Nat.zero_add _).symm
  | succ n ih =>
    intro v
    rw [show n + 1 + m = (n + m) + 1 by omega, popf, popf, ih, Nat.div_div_eq_div_mul, ← Nat.pow_succ', Nat.add_assoc]
theorem popf_mod : ∀ k v w, popf k (2 ^ k * w + v) = popf k v := by
  intro k
  induction k with
  | zero => intro v w; rfl
  | succ k ih =>
    intro v w
    have e : 2 ^ (k + 1) * w + v = 2 * (2 ^ k * w) + v := by rw [Nat.pow_succ', Nat.mul_assoc]
    rw [popf, popf, e, show (2 * (2 ^ k * w) + v) % 2 = v % 2 by omega, show (2 * (2 ^ k * w) + v) / 2 = 2 ^ k * w + v / 2 by omega, ih]
theorem lsp (e : Nat) {x1 x2 y1 y2 : Nat} (hx : x1 < 2 ^ e) (hy : y1 < 2 ^ e) : (2 ^ e * x2 + x1) &&& (2 ^ e * y2 + y1) = 2 ^ e * (x2 &&& y2) + (x1 &&& y1) := by
  have hp : 0 < 2 ^ e := Nat.two_pow_pos e
  have d1 : (2 ^ e * x2 + x1) / 2 ^ e = x2 := by rw [Nat.mul_add_div hp, Nat.div_eq_of_lt hx, Nat.add_zero]
  have d2 : (2 ^ e * y2 + y1) / 2 ^ e = y2 := by rw [Nat.mul_add_div hp, Nat.div_eq_of_lt hy, Nat.add_zero]
  have m1 : (2 ^ e * x2 + x1) % 2 ^ e = x1 := by rw [Nat.mul_add_mod, Nat.mod_eq_of_lt hx]
  have m2 : (2 ^ e * y2 + y1) % 2 ^ e = y1 := by rw [Nat.mul_add_mod, Nat.mod_eq_of_lt hy]
  have d := @Nat.and_div_two_pow (2 ^ e * x2 + x1) (2 ^ e * y2 + y1) e
  have m := @Nat.and_mod_two_pow (2 ^ e * x2 + x1) (2 ^ e * y2 + y1) e
  rw [d1, d2] at d
  rw [m1, m2] at m
  rw [← d, ← m, Nat.div_add_mod]
theorem ofI (a : Nat) : BitVec.ofInt 32 (a : Int) = BitVec.ofNat 32 a := by
  apply BitVec.eq_of_toNat_eq
  rw [BitVec.toNat_ofInt, BitVec.toNat_ofNat]
  omega
theorem toI {a : Nat} (h : a < 2147483648) : (BitVec.ofNat 32 a).toInt = (a : Int) := by
  have e : (BitVec.ofNat 32 a).toNat = a := by rw [BitVec.toNat_ofNat]; omega
  rw [BitVec.toInt_eq_toNat_of_lt (by rw [e]; omega), e]
theorem and_n {a b : Nat} (m : Int) (ha : a < 2147483648) (hm : m = (b : Int)) : and32 (a : Int) m = ((a &&& b : Nat) : Int) := by
  unfold and32
  rw [hm, ofI, ofI, ← BitVec.ofNat_and, toI]
  exact Nat.lt_of_le_of_lt Nat.and_le_left ha
theorem or_n {a b : Nat} (m : Int) (ha : a < 2147483648) (hb : b < 2147483648) (hm : m = (b : Int)) : or32 (a : Int) m = ((a ||| b : Nat) : Int) := by
  unfold or32
  rw [hm, ofI, ofI, ← BitVec.ofNat_or, toI]
  exact Nat.or_lt_two_pow (n := 31) ha hb
theorem xor_n {a b : Nat} (m : Int) (ha : a < 2147483648) (hb : b < 2147483648) (hm : m = (b : Int)) : xor32 (a : Int) m = ((a ^^^ b : Nat) : Int) := by
  unfold xor32
  rw [hm, ofI, ofI, ← BitVec.ofNat_xor, toI]
  exact Nat.xor_lt_two_pow (n := 31) ha hb
theorem ushr_n {a p : Nat} {k : Int} (ha : a < 2147483648) (hp0 : 2 ^ k.toNat = p) (p0 : 1 ≤ p) : ushr32 (a : Int) k = ((a / p : Nat) : Int) := by
  unfold ushr32
  have hp : (2 : Int) ^ k.toNat = (p : Int) := by rw [← hp0, Int.natCast_pow]; rfl
  have h1 : a / p ≤ a := Nat.div_le_self _ _
  have h2 : (a : Int) / (p : Int) = ((a / p : Nat) : Int) := (Int.natCast_ediv _ _).symm
  rw [hp, Int.emod_eq_of_lt (by omega) (by omega), h2]
  generalize a / p = c at *
  exact w32_id (by omega) (by omega)
theorem oct : ∀ x : Nat, x < 256 → (x / 2 &&& 85) ≤ x ∧ (((x - (x / 2 &&& 85)) &&& 51) + ((x - (x / 2 &&& 85)) / 4 &&& 51)) % 16 ≤ 4 ∧ (((x - (x / 2 &&& 85)) &&& 51) + ((x - (x / 2 &&& 85)) / 4 &&& 51)) / 16 ≤ 4 ∧ (((x - (x / 2 &&& 85)) &&& 51) + ((x - (x / 2 &&& 85)) / 4 &&& 51)) % 16 + (((x - (x / 2 &&& 85)) &&& 51) + ((x - (x / 2 &&& 85)) / 4 &&& 51)) / 16 = popf 8 x := by decide +kernel
theorem half5 : ∀ x : Nat, x < 256 → (128 + x / 2) &&& 85 = (x / 2) &&& 85 := by decide +kernel
theorem quar3 : ∀ x : Nat, x < 256 → ∀ c : Nat, c < 4 → (64 * c + x / 4) &&& 51 = (x / 4) &&& 51 := by decide +kernel
def popc (v : Int) : Int := (popf 16 v.toNat : Nat)
theorem popc_r (v : Int) : 0 ≤ popc v ∧ popc v ≤ 16 := by
  have := popf_le 16 v.toNat
  unfold popc
  omega
theorem lsp8 {X M x1 x2 y1 y2 : Nat} (hX : X = 256 * x2 + x1) (hM : M = 256 * y2 + y1) (hx : x1 < 256) (hy : y1 < 256) : X &&& M = 256 * (x2 &&& y2) + (x1 &&& y1) := by
  have e : (2 : Nat) ^ 8 = 256 := by decide
  have z := lsp 8 (x1 := x1) (x2 := x2) (y1 := y1) (y2 := y2) (by rw [e]; exact hx) (by rw [e]; exact hy)
  rw [e] at z
  rw [hX, hM]; exact z
theorem lsp2 {X M x1 x2 y1 y2 : Nat} (hX : X = 2 * x2 + x1) (hM : M = 2 * y2 + y1) (hx : x1 < 2) (hy : y1 < 2) : X &&& M = 2 * (x2 &&& y2) + (x1 &&& y1) := by
  have e : (2 : Nat) ^ 1 = 2 := by decide
  have z := lsp 1 (x1 := x1) (x2 := x2) (y1 := y1) (y2 := y2) (by rw [e]; exact hx) (by rw [e]; exact hy)
  rw [e] at z
  rw [hX, hM]; exact z
/-- a mask of bytes on a byte -/
theorem mskb {w M m y2 : Nat} (hw : w < 256) (hM : M = 256 * y2 + m) (hm : m < 256) : w &&& M = w &&& m := by
  have z := lsp8 (X := w) (M := M) (x1 := w) (x2 := 0) (y1 := m) (y2 := y2) (by omega) hM hw hm
  rw [Nat.zero_and, Nat.mul_zero, Nat.zero_add] at z
  exact z
theorem pop16 (a b : Nat) (ha : a < 256) : popf 16 (256 * b + a) = popf 8 a + popf 8 b := by
  have e : (2 : Nat) ^ 8 = 256 := by decide
  have z := popf_add 8 8 (256 * b + a)
  have y := popf_mod 8 a b
  rw [e] at y z
  rw [y, show (256 * b + a) / 256 = b by omega] at z
  exact z
theorem swp1 {a b : Nat} (ha : a < 256) (hb : b < 256) : ((256 * b + a) / 2 &&& 1431655765) = 256 * (b / 2 &&& 85) + (a / 2 &&& 85) := by
  have z := lsp8 (X := (256 * b + a) / 2) (M := 1431655765) (x1 := 128 * (b % 2) + a / 2) (x2 := b / 2) (y1 := 85) (y2 := 5592405) (by omega) (by omega) (by omega) (by omega)
  have w : (128 * (b % 2) + a / 2) &&& 85 = a / 2 &&& 85 := by
    have : b % 2 = 0 ∨ b % 2 = 1 := by omega
    rcases this with e | e
    · rw [e, Nat.mul_zero, Nat.zero_add]
    · rw [e, Nat.mul_one]; exact half5 a ha
  rw [w, mskb (w := b / 2) (M := 5592405) (m := 85) (y2 := 21845) (by omega) (by omega) (by omega)] at z
  exact z
theorem swp2 {ya yb : Nat} (la : ya < 256) (lb : yb < 256) : ((256 * yb + ya) &&& 858993459) = 256 * (yb &&& 51) + (ya &&& 51) := by
  have z := lsp8 (X := 256 * yb + ya) (M := 858993459) (x1 := ya) (x2 := yb) (y1 := 51) (y2 := 3355443) rfl (by omega) la (by omega)
  rw [mskb (w := yb) (M := 3355443) (m := 51) (y2 := 13107) lb (by omega) (by omega)] at z
  exact z
theorem swp3 {ya yb : Nat} (la : ya < 256) (lb : yb < 256) : ((256 * yb + ya) / 4 &&& 858993459) = 256 * (yb / 4 &&& 51) + (ya / 4 &&& 51) := by
  have z := lsp8 (X := (256 * yb + ya) / 4) (M := 858993459) (x1 := 64 * (yb % 4) + ya / 4) (x2 := yb / 4) (y1 := 51) (y2 := 3355443) (by omega) (by omega) (by omega) (by omega)
  rw [mskb (w := yb / 4) (M := 3355443) (m := 51) (y2 := 13107) (by omega) (by omega) (by omega), quar3 ya la (yb % 4) (by omega)] at z
  exact z
theorem and15 (w : Nat) : w &&& 15 = w % 16 := by
  have := Nat.and_two_pow_sub_one_eq_mod w 4
  have e : (2 : Nat) ^ 4 = 16 := by decide
  rw [e] at this
  exact this
theorem and63 (w : Nat) : w &&& 63 = w % 64 := by
  have := Nat.and_two_pow_sub_one_eq_mod w 6
  have e : (2 : Nat) ^ 6 = 64 := by decide
  rw [e] at this
  exact this
theorem swp4 {za zb : Nat} (a2 : za % 16 ≤ 4) (a3 : za / 16 ≤ 4) (b2 : zb % 16 ≤ 4) (b3 : zb / 16 ≤ 4) : ((256 * zb + za + (256 * zb + za) / 16) &&& 252645135) = 256 * (zb % 16 + zb / 16) + (za % 16 + za / 16) := by
  have z := lsp8 (X := 256 * zb + za + (256 * zb + za) / 16) (M := 252645135) (x1 := za + za / 16 + 16 * (zb % 16)) (x2 := zb + zb / 16) (y1 := 15) (y2 := 986895) (by omega) (by omega) (by omega) (by omega)
  rw [mskb (w := zb + zb / 16) (M := 986895) (m := 15) (y2 := 3855) (by omega) (by omega) (by omega), and15, and15, show (zb + zb / 16) % 16 = zb % 16 + zb / 16 by omega, show (za + za / 16 + 16 * (zb % 16)) % 16 = za % 16 + za / 16 by omega] at z
  exact z
theorem bct1 {a b xa xb : Nat} (ha : a < 256) (hb : b < 256) (ea : (a / 2 &&& 85) = xa) (eb : (b / 2 &&& 85) = xb) (la : xa ≤ a) (lb : xb ≤ b) : w32 (((256 * b + a : Nat) : Int) - and32 (ushr32 ((256 * b + a : Nat) : Int) 1) 1431655765) = ((256 * (b - xb) + (a - xa) : Nat) : Int) := by
  have f := swp1 ha hb
  rw [ea, eb] at f
  rw [ushr_n (p := 2) (by omega) (by decide) (by decide), and_n (b := 1431655765) 1431655765 (by omega) (by decide), f, w32_id (by omega) (by omega)]
  omega
theorem bct2 {ya yb za zb xa xb wa wb : Nat} (la : ya < 256) (lb : yb < 256) (ea : (ya &&& 51) = xa) (eb : (yb &&& 51) = xb) (ga : (ya / 4 &&& 51) = wa) (gb : (yb / 4 &&& 51) = wb) (ha : xa + wa = za) (hb : xb + wb = zb) (l1 : za < 256) (l2 : zb < 256) : w32 (and32 ((256 * yb + ya : Nat) : Int) 858993459 + and32 (ushr32 ((256 * yb + ya : Nat) : Int) 2) 858993459) = ((256 * zb + za : Nat) : Int) := by
  have f2 := swp2 la lb
  have f3 := swp3 la lb
  rw [ea, eb] at f2
  rw [ga, gb] at f3
  rw [ushr_n (p := 4) (by omega) (by decide) (by decide), and_n (b := 858993459) 858993459 (by omega) (by decide), and_n (b := 858993459) 858993459 (by omega) (by decide), f2, f3]
  clear ea eb ga gb f2 f3
  rw [w32_id (by omega) (by omega)]
  omega
theorem bct3 {za zb ca cb : Nat} (a2 : za % 16 ≤ 4) (a3 : za / 16 ≤ 4) (b2 : zb % 16 ≤ 4) (b3 : zb / 16 ≤ 4) (ea : za % 16 + za / 16 = ca) (eb : zb % 16 + zb / 16 = cb) : and32 (w32 (((256 * zb + za : Nat) : Int) + ushr32 ((256 * zb + za : Nat) : Int) 4)) 252645135 = ((256 * cb + ca : Nat) : Int) := by
  have f := swp4 a2 a3 b2 b3
  rw [ea, eb] at f
  clear ea eb
  rw [ushr_n (p := 16) (by omega) (by decide) (by decide), ← Int.natCast_add, w32_id (by omega) (by omega), and_n (b := 252645135) 252645135 (by omega) (by decide), f]
theorem bct4 {ca cb : Nat} (ha : ca ≤ 8) (hb : cb ≤ 8) : w32 (((256 * cb + ca : Nat) : Int) + ushr32 ((256 * cb + ca : Nat) : Int) 8) = ((256 * cb + (ca + cb) : Nat) : Int) := by
  rw [ushr_n (p := 256) (by omega) (by decide) (by decide), w32_id (by omega) (by omega)]
  omega
theorem bct5 {ca cb : Nat} (ha : ca ≤ 8) (hb : cb ≤ 8) : and32 (w32 (((256 * cb + (ca + cb) : Nat) : Int) + ushr32 ((256 * cb + (ca + cb) : Nat) : Int) 16)) 63 = ((ca + cb : Nat) : Int) := by
  rw [ushr_n (p := 65536) (by omega) (by decide) (by decide), ← Int.natCast_add, w32_id (by omega) (by omega), and_n (b := 63) 63 (by omega) (by decide), and63]
  have e : (256 * cb + (ca + cb)) / 65536 = 0 := Nat.div_eq_of_lt (by omega)
  have e2 : (256 * cb + (ca + cb)) % 64 = ca + cb := by omega
  rw [e, Nat.add_zero, e2]
theorem S265 {d : Nat} {v : Int} {g : KG} {h : KH} {Q : Option KV → KG → KH → Prop} (v0 : 0 ≤ v) (v1 : v < 65536) : Cl (d + 1) 265 [xI v] g h Q = Q (some (xI (popc v))) g h := by
  obtain ⟨a, b, ha, hb, e⟩ : ∃ a b : Nat, a < 256 ∧ b < 256 ∧ v = ((256 * b + a : Nat) : Int) := ⟨v.toNat % 256, v.toNat / 256, by omega, by omega, by omega⟩
  obtain ⟨a1, a2, a3, a4⟩ := oct a ha
  obtain ⟨b1, b2, b3, b4⟩ := oct b hb
  have pe := pop16 a b ha
  have pa := popf_le 8 a
  have pb := popf_le 8 b
  have e1 := bct1 ha hb rfl rfl a1 b1
  have e2 := bct2 (ya := a - (a / 2 &&& 85)) (yb := b - (b / 2 &&& 85)) (Nat.lt_of_le_of_lt (Nat.sub_le _ _) ha) (Nat.lt_of_le_of_lt (Nat.sub_le _ _) hb) rfl rfl rfl rfl rfl rfl (by clear e1 pe; omega) (by clear e1 pe; omega)
  have e3 := bct3 a2 a3 b2 b3 a4 b4
  subst e
  rw [E265, ga (by decide), ga (by decide), e1, e2, B265_26, ga (by decide), ga (by decide), e3, bct4 pa pb, B265_43, ga (by decide), bct5 pa pb, ← pe]
  unfold popc
  rw [Int.toNat_natCast]
theorem kern : ∀ f k : Nat, k ≠ 0 → k < 2 ^ f → (k &&& (k - 1)) < k ∧ popf f (k &&& (k - 1)) + 1 = popf f k := by
  intro f
  induction f with
  | zero => intro k h0 h1; have : k < 1 := h1; omega
  | succ f ih =>
    intro k h0 h1
    rw [Nat.pow_succ'] at h1
    by_cases hp : k % 2 = 1
    · have z := lsp2 (X := k) (M := k - 1) (x1 := 1) (x2 := k / 2) (y1 := 0) (y2 := k / 2) (by omega) (by omega) (by decide) (by decide)
      have e : k &&& (k - 1) = k - 1 := by
        rw [Nat.and_self, show (1 &&& 0 : Nat) = 0 from rfl] at z
        omega
      rw [e, popf, popf, show (k - 1) / 2 = k / 2 by omega, show (k - 1) % 2 = 0 by omega]
      omega
    · have z := lsp2 (X := k) (M := k - 1) (x1 := 0) (x2 := k / 2) (y1 := 1) (y2 := k / 2 - 1) (by omega) (by omega) (by decide) (by decide)
      have e : k &&& (k - 1) = 2 * (k / 2 &&& (k / 2 - 1)) := by
        rw [show (0 &&& 1 : Nat) = 0 from rfl, Nat.add_zero] at z
        exact z
      have i := ih (k / 2) (by omega) (by omega)
      rw [e, popf, popf, show 2 * (k / 2 &&& (k / 2 - 1)) % 2 = 0 by omega, show 2 * (k / 2 &&& (k / 2 - 1)) / 2 = k / 2 &&& (k / 2 - 1) by omega]
      omega
theorem S238 {d : Nat} {v : Int} {g : KG} {h : KH} {Q : Option KV → KG → KH → Prop} (v0 : 0 ≤ v) (v1 : v < 65536) (hQ : Q (some (xI (popc v))) g h) : Cl (d + 1) 238 [xI v] g h Q := by
  obtain ⟨n, rfl⟩ : ∃ n : Nat, v = n := ⟨v.toNat, by omega⟩
  unfold popc at hQ
  rw [Int.toNat_natCast] at hQ
  have pn := popf_le 16 n
  have lp : ∀ m k c : Nat, k ≤ m → k < 65536 → c + popf 16 k = popf 16 n → Rn d 238 4 [xI (n : Int), xI (c : Int), xI (k : Int)] [] g h Q := by
    intro m
    induction m with
    | zero =>
      intro k c hk h2 h3
      have hk : k = 0 := by omega
      subst hk
      rw [popf_0, Nat.add_zero] at h3
      rw [B238_4, if_pos (by omega), h3]
      exact hQ
    | succ m ih =>
      intro k c hk h2 h3
      by_cases k0 : k = 0
      · exact ih k c (by omega) h2 h3
      · have z := kern 16 k k0 h2
        have pl := popf_le 16 k
        rw [B238_4, if_neg (by omega), w32_id (by omega) (by omega), w32_id (by omega) (by omega), and_n (b := k - 1) ((k : Int) - 1) (by omega) (by omega), show ((c : Int) + 1) = ((c + 1 : Nat) : Int) by omega]
        exact ih _ (c + 1) (by omega) (by omega) (by omega)
  rw [E238]
  exact lp n n 0 (Nat.le_refl _) (by omega) (by omega)
