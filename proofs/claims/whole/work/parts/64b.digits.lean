/-! digits that differ, by bits -/
/-- digits that aren't zero -/
def nz (x : Nat) : Nat := (if x / 1024 % 4 = 0 then 0 else 1) + ((if x / 256 % 4 = 0 then 0 else 1) + ((if x / 64 % 4 = 0 then 0 else 1) + ((if x / 16 % 4 = 0 then 0 else 1) + ((if x / 4 % 4 = 0 then 0 else 1) + (if x % 4 = 0 then 0 else 1)))))
theorem lso4 {X Y x1 x2 y1 y2 : Nat} (hX : X = 4 * x2 + x1) (hY : Y = 4 * y2 + y1) (hx : x1 < 4) (hy : y1 < 4) : X ||| Y = 4 * (x2 ||| y2) + (x1 ||| y1) := by
  have e : (2 : Nat) ^ 2 = 4 := by decide
  have d := @Nat.or_div_two_pow X Y 2
  have m := @Nat.or_mod_two_pow X Y 2
  rw [e] at d m
  rw [show X / 4 = x2 by omega, show Y / 4 = y2 by omega] at d
  rw [show X % 4 = x1 by omega, show Y % 4 = y1 by omega] at m
  rw [← d, ← m]
  omega
theorem lsp4 {X M x1 x2 y1 y2 : Nat} (hX : X = 4 * x2 + x1) (hM : M = 4 * y2 + y1) (hx : x1 < 4) (hy : y1 < 4) : X &&& M = 4 * (x2 &&& y2) + (x1 &&& y1) := by
  have e : (2 : Nat) ^ 2 = 4 := by decide
  have z := lsp 2 (x1 := x1) (x2 := x2) (y1 := y1) (y2 := y2) (by rw [e]; exact hx) (by rw [e]; exact hy)
  rw [e] at z
  rw [hX, hM]; exact z
theorem q41 : ∀ r : Nat, r < 4 → ∀ c : Nat, c < 2 → (r ||| (2 * c + r / 2)) &&& 1 = if r = 0 then 0 else 1 := by decide
theorem q42 : ∀ r : Nat, r < 4 → ∀ c : Nat, c < 2 → (r ||| (2 * c + r / 2)) < 4 := by decide
theorem nzs (x M N : Nat) (hN : N = 4 * M + 1) : (x ||| x / 2) &&& N = 4 * ((x / 4 ||| x / 4 / 2) &&& M) + (if x % 4 = 0 then 0 else 1) := by
  have h1 := lso4 (X := x) (Y := x / 2) (x1 := x % 4) (x2 := x / 4) (y1 := 2 * (x / 4 % 2) + x % 4 / 2) (y2 := x / 4 / 2) (by omega) (by omega) (by omega) (by omega)
  have h2 := q42 (x % 4) (by omega) (x / 4 % 2) (by omega)
  have h3 := lsp4 (X := x ||| x / 2) (M := N) (x1 := x % 4 ||| (2 * (x / 4 % 2) + x % 4 / 2)) (x2 := x / 4 ||| x / 4 / 2) (y1 := 1) (y2 := M) h1 hN h2 (by decide)
  rw [h3, q41 (x % 4) (by omega) (x / 4 % 2) (by omega)]
theorem popf_4 (k y s : Nat) (hs : s < 2) : popf (k + 2) (4 * y + s) = s + popf k y := by
  rw [popf, popf, show (4 * y + s) % 2 = s by omega, show (4 * y + s) / 2 % 2 = 0 by omega, show (4 * y + s) / 2 / 2 = y by omega, Nat.zero_add]
theorem ite2 (P : Prop) [Decidable P] : (if P then (0 : Nat) else 1) < 2 := by split <;> decide
theorem nz_pop (x : Nat) : popf 16 ((x ||| x / 2) &&& 1365) = nz x := by
  have a1 := nzs x 341 1365 (by decide)
  have a2 := nzs (x / 4) 85 341 (by decide)
  have a3 := nzs (x / 4 / 4) 21 85 (by decide)
  have a4 := nzs (x / 4 / 4 / 4) 5 21 (by decide)
  have a5 := nzs (x / 4 / 4 / 4 / 4) 1 5 (by decide)
  have a6 := nzs (x / 4 / 4 / 4 / 4 / 4) 0 1 (by decide)
  rw [Nat.and_zero] at a6
  rw [a1, popf_4 14 _ _ (ite2 _), a2, popf_4 12 _ _ (ite2 _), a3, popf_4 10 _ _ (ite2 _), a4, popf_4 8 _ _ (ite2 _), a5, popf_4 6 _ _ (ite2 _), a6, popf_4 4 _ _ (ite2 _), popf_0]
  unfold nz
  rw [show x / 4 / 4 = x / 16 by omega, show x / 16 / 4 = x / 64 by omega, show x / 64 / 4 = x / 256 by omega, show x / 256 / 4 = x / 1024 by omega]
  generalize (if x / 1024 % 4 = 0 then 0 else 1) = b1
  generalize (if x / 256 % 4 = 0 then 0 else 1) = b2
  generalize (if x / 64 % 4 = 0 then 0 else 1) = b3
  generalize (if x / 16 % 4 = 0 then 0 else 1) = b4
  generalize (if x / 4 % 4 = 0 then 0 else 1) = b5
  generalize (if x % 4 = 0 then 0 else 1) = b6
  omega
theorem x4 : ∀ u : Nat, u < 4 → ∀ v : Nat, v < 4 → ((u ^^^ v = 0) ↔ u = v) := by decide
theorem xdig (a b e p : Nat) (hp : 2 ^ e = p) : ((a ^^^ b) / p % 4 = 0) ↔ a / p % 4 = b / p % 4 := by
  have d := @Nat.xor_div_two_pow a b e
  rw [hp] at d
  have m := @Nat.xor_mod_two_pow (a / p) (b / p) 2
  have e4 : (2 : Nat) ^ 2 = 4 := by decide
  rw [e4] at m
  rw [d, m]
  exact x4 _ (Nat.mod_lt _ (by decide)) _ (Nat.mod_lt _ (by decide))
theorem xnz {a b p : Nat} (e : Nat) (hp : 2 ^ e = p) (q : Int) (h4 : p4 q = (p : Int)) : (((if (a ^^^ b) / p % 4 = 0 then (0 : Nat) else 1) : Nat) : Int) = if dg a q = dg b q then 0 else 1 := by
  have y := xdig a b e p hp
  unfold dg
  rw [h4]
  have ea : (a : Int) / (p : Int) % 4 = ((a / p % 4 : Nat) : Int) := rfl
  have eb : (b : Int) / (p : Int) % 4 = ((b / p % 4 : Nat) : Int) := rfl
  rw [ea, eb]
  by_cases h : a / p % 4 = b / p % 4
  · rw [if_pos (y.mpr h), if_pos (by rw [h])]; rfl
  · rw [if_neg (fun q => h (y.mp q)), if_neg (fun q => h (Int.natCast_inj.mp q))]; rfl
theorem dif6 (p r : Int) : dif p r 6 = 0 + (if dg p 0 = dg r 0 then 0 else 1) + (if dg p 1 = dg r 1 then 0 else 1) + (if dg p 2 = dg r 2 then 0 else 1) + (if dg p 3 = dg r 3 then 0 else 1) + (if dg p 4 = dg r 4 then 0 else 1) + (if dg p 5 = dg r 5 then 0 else 1) := by
  rw [dif, dif, dif, dif, dif, dif, dif]
  rfl
theorem nz_dif (a b : Nat) : ((nz (a ^^^ b) : Nat) : Int) = dif a b 6 := by
  have h0 := xnz (a := a) (b := b) (p := 1024) 10 (by decide) 0 (by decide)
  have h1 := xnz (a := a) (b := b) (p := 256) 8 (by decide) 1 (by decide)
  have h2 := xnz (a := a) (b := b) (p := 64) 6 (by decide) 2 (by decide)
  have h3 := xnz (a := a) (b := b) (p := 16) 4 (by decide) 3 (by decide)
  have h4 := xnz (a := a) (b := b) (p := 4) 2 (by decide) 4 (by decide)
  have h5 := xnz (a := a) (b := b) (p := 1) 0 (by decide) 5 (by decide)
  rw [Nat.div_one] at h5
  rw [dif6, ← h0, ← h1, ← h2, ← h3, ← h4, ← h5]
  unfold nz
  omega
theorem xb (a b : Nat) (ha : a < 4096) (hb : b < 4096) : and32 (or32 (xor32 (a : Int) (b : Int)) (shr32 (xor32 (a : Int) (b : Int)) 1)) 1365 = ((((a ^^^ b) ||| (a ^^^ b) / 2) &&& 1365 : Nat) : Int) := by
  have hx : a ^^^ b < 4096 := Nat.xor_lt_two_pow (n := 12) ha hb
  have hs : shr32 ((a ^^^ b : Nat) : Int) 1 = (((a ^^^ b) / 2 : Nat) : Int) := rfl
  rw [xor_n (b := b) (b : Int) (by omega) (by omega) rfl, hs]
  generalize a ^^^ b = x at *
  have ho : (x ||| x / 2) < 4096 := Nat.or_lt_two_pow (n := 12) hx (Nat.lt_of_le_of_lt (Nat.div_le_self _ _) hx)
  rw [or_n (b := x / 2) _ (by omega) (by omega) rfl]
  generalize x ||| x / 2 = y at *
  exact and_n (b := 1365) 1365 (by omega) (by decide)
theorem S153 {d : Nat} {p r : Int} {g : KG} {h : KH} {Q : Option KV → KG → KH → Prop} (p0 : 0 ≤ p) (p1 : p < 4096) (r0 : 0 ≤ r) (r1 : r < 4096) : Cl (d + 2) 153 [xI p, xI r] g h Q = Q (some (xI (dif p r 6))) g h := by
  obtain ⟨a, rfl⟩ : ∃ n : Nat, p = n := ⟨p.toNat, by omega⟩
  obtain ⟨b, rfl⟩ : ∃ n : Nat, r = n := ⟨r.toNat, by omega⟩
  have z := nz_pop (a ^^^ b)
  have hm : (((a ^^^ b) ||| (a ^^^ b) / 2) &&& 1365) ≤ 1365 := Nat.and_le_right
  rw [E153, ga (by decide), xb a b (by omega) (by omega)]
  generalize ((a ^^^ b) ||| (a ^^^ b) / 2) &&& 1365 = y at *
  rw [S265 (by omega) (by omega), o1, List.cons_append, List.nil_append, B153_16]
  unfold popc
  rw [Int.toNat_natCast, z, nz_dif]
theorem dif_c (p r : Int) : ∀ n, dif p r n = dif r p n := by
  intro n
  induction n with
  | zero => rfl
  | succ n ih =>
    unfold dif
    rw [ih]
    by_cases h : dg p n = dg r n
    · rw [if_pos h, if_pos h.symm]
    · rw [if_neg h, if_neg (fun z => h z.symm)]
theorem dif_up {A : St} (O : A.Ok) {p r : Int} (hp : A.row p) (hr : A.row r) : dif p r 6 = dif p r A.nq.toNat := by
  have h6 := O.nq
  have lp : ∀ n : Nat, A.nq.toNat + n ≤ 6 → dif p r (A.nq.toNat + n) = dif p r A.nq.toNat := by
    intro n
    induction n with
    | zero => intro _; rfl
    | succ n ih =>
      intro hn
      rw [← Nat.add_assoc, dif, ih (by omega), if_pos, Int.add_zero]
      rw [hp.2.2.2 _ (by omega) (by omega), hr.2.2.2 _ (by omega) (by omega)]
  have := lp (6 - A.nq.toNat) (by omega)
  rw [show A.nq.toNat + (6 - A.nq.toNat) = 6 by omega] at this
  exact this
