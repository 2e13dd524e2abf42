/-! digits that differ, by bits -/
/-- digits that aren't zero -/
def nz (x : Nat) : Nat := (if x / 1024 % 4 = 0 then 0 else 1) + ((if x / 256 % 4 = 0 then 0 else 1) + ((if x / 64 % 4 = 0 then 0 else 1) + ((if x / 16 % 4 = 0 then 0 else 1) + ((if x / 4 % 4 = 0 then 0 else 1) + (if x % 4 = 0 then 0 else 1)))))
theorem lso4 {X Y x1 x2 y1 y2 : Nat} (hX : X = 4 * x2 + x1) (hY : Y = 4 * y2 + y1) (hx : x1 < 4) (hy : y1 < 4) : X ||| Y = 4 * (x2 ||| y2) + (x1 ||| y1) := by
  have e : (2 : Nat) ^ 2 = 4 := by decide
  have d := @Nat.or_div_two_pow X Y 2
  have m := @Nat.or_mod_two_pow X Y 2
  rw [e] at d m
  rw [show X / 4 = x2 by omega, show Y / 4 = y2 by omega] at d
  rw [show X % 4 = x1 by omega, show Y % 4 = y1 by omega] at m
  rw [← d, ← m]
  omega
theorem lsp4 {X M x1 x2 y1 y2 : Nat} (hX : X = 4 * x2 + x1) (hM : M = 4 * y2 + y1) (hx : x1 < 4) (hy : y1 < 4) : X &&& M = 4 * (x2 &&& y2) + (x1 &&& y1) := by
  have e : (2 : Nat) ^ 2 = 4 := by decide
  have z := lsp 2 (x1 := x1) (x2 := x2) (y1 := y1) (y2 := y2) (by rw [e]; exact hx) (by rw [e]; exact hy)
  rw [e] at z
  rw [hX, hM]; exact z
theorem q41 : ∀ r : Nat, r < 4 → ∀ c : Nat, c < 2 → (r ||| (2 * c + r / 2)) &&& 1 = if r = 0 then 0 else 1 := by decide
theorem q42 : ∀ r : Nat, r < 4 → ∀ c : Nat, c < 2 → (r ||| (2 * c + r / 2)) < 4 := by decide
theorem nzs (x M N : Nat) (hN : N = 4 * M + 1) : (x ||| x / 2) &&& N = 4 * ((x / 4 ||| x / 4 / 2) &&& M) + (if x % 4 = 0 then 0 else 1) := by
  have h1 := lso4 (X := x) (Y := x / 2) (x1 := x % 4) (x2 := x / 4) (y1 := 2 * (x / 4 % 2) + x % 4 / 2) (y2 := x / 4 / 2) (by omega) (by omega) (by omega) (by omega)
  have h2 := q42 (x % 4) (by omega) (x / 4 % 2) (by omega)
  have h3 := lsp4 (X := x ||| x / 2) (M := N) (x1 := x % 4 ||| (2 * (x / 4 % 2) + x % 4 / 2)) (x2 := x / 4 ||| x / 4 / 2) (y1 := 1) (y2 := M) h1 hN h2 (by decide)
  rw [h3, q41 (x % 4) (by omega) (x / 4 % 2) (by omega)]
theorem popf_4 (k y s : Nat) (hs : s < 2) : popf (k + 2) (4 * y + s) = s + popf k y := by
  rw [popf, popf, show (4 * y + s) % 2 = s by omega, show (4 * y + s) / 2 % 2 = 0 by omega, show (4 * y + s) / 2 / 2 = y by omega, Nat.zero_add]
theorem ite2 (P : Prop) [Decidable P] : (if P then (0 : Nat) else 1) < 2 := by split <;> decide
theorem nz_pop (x : Nat) : popf 16 ((x ||| x / 2) &&& 1365) = nz x := by
  have a1 := nzs x 341 1365 (by decide)
  have a2 := nzs (x / 4) 85 341 (by decide)
  have a3 := nzs (x / 4 / 4) 21 85 (by decide)
  have a4 := nzs (x / 4 / 4 / 4) 5 21 (by decide)
  have a5 := nzs (x / 4 / 4 / 4 / 4) 1 5 (by decide)
  have a6 := nzs (x / 4 / 4 / 4 / 4 / 4) 0 1 (by decide)
  rw [Nat.and_zero] at a6
  rw [a1, popf_4 14 _ _ (ite2 _), a2, popf_4 12 _ _ (ite2 _), a3, popf_4 10 _ _ (ite2 _), a4, popf_4 8 _ _ (ite2 _), a5, popf_4 6 _ _ (ite2 _), a6, popf_4 4 _ _ (ite2 _), popf_0]
  unfold nz
  rw [show x / 4 / 4 = x / 16 by omega, show x / 16 / 4 = x / 64 by omega, show x / 64 / 4 = x / 256 by omega, show x / 256 / 4 = x / 1024 by omega]
  generalize (if x / 1024 % 4 = 0 then 0 else 1) = b1
  generalize (if x / 256 % 4 = 0 then 0 else 1) = b2
  generalize (if x / 64 % 4 = 0 then 0 else 1) = b3
  generalize (if x / 16 % 4 = 0 then 0 else 1) = b4
  generalize (if x / 4 % 4 = 0 then 0 else 1) = b5
  generalize (if x % 4 = 0 then 0 else 1) = b6
  omega
