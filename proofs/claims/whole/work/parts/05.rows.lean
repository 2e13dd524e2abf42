/-! RUNNING: 'Rn d k pc ls st g h Q': from there the abstract machine ends, and its end has Q. An equation an instruction. -/
theorem exec_mono : ∀ (f d k pc : Nat) (ls st : List KV) (g : KG) (h : KH) (x : Option KV × KG × KH), exec f d k pc ls st g h = some x → ∀ f2, f ≤ f2 → exec f2 d k pc ls st g h = some x := by
  intro f
  induction f with
  | zero => intro d k pc ls st g h x hx; simp [exec] at hx
  | succ f ih =>
    intro d k pc ls st g h x hx f2 hf
    obtain ⟨f3, rfl⟩ : ∃ z, f2 = z + 1 := ⟨f2 - 1, by omega⟩
    have hf3 : f ≤ f3 := by omega
    rw [exec] at hx ⊢
    cases hfe : fetch k pc with
    | none => rw [hfe] at hx; simp at hx
    | some q =>
      obtain ⟨ins, nx⟩ := q
      rw [hfe] at hx
      simp only at hx ⊢
      cases hr : rets k ins st with
      | some r => rw [hr] at hx; simpa using hx
      | none =>
        rw [hr] at hx
        simp only at hx ⊢
        cases hc : calls k ins st g with
        | some q =>
          obtain ⟨k2, as, rest⟩ := q
          rw [hc] at hx
          simp only at hx ⊢
          cases d with
          | zero => simp at hx
          | succ e =>
            simp only at hx ⊢
            cases he : exec f e k2 0 (mkl as (mloc k2)) [] g h with
            | none => rw [he] at hx; simp at hx
            | some q =>
              obtain ⟨r, g1, h1⟩ := q
              rw [he] at hx
              rw [ih _ _ _ _ _ _ _ _ he f3 hf3]
              simp only at hx ⊢
              exact ih _ _ _ _ _ _ _ _ hx f3 hf3
        | none =>
          rw [hc] at hx
          simp only at hx ⊢
          cases hs : stp k pc ins nx ls st g h with
          | none => rw [hs] at hx; simp at hx
          | some q =>
            obtain ⟨pc1, ls1, st1, g1, h1⟩ := q
            rw [hs] at hx
            simp only at hx ⊢
            exact ih _ _ _ _ _ _ _ _ hx f3 hf3
def Rn (d k pc : Nat) (ls st : List KV) (g : KG) (h : KH) (Q : Option KV → KG → KH → Prop) : Prop := ∃ (f : Nat) (r : Option KV) (g1 : KG) (h1 : KH), exec f d k pc ls st g h = some (r, g1, h1) ∧ Q r g1 h1
/-- a call of method k: with one level less below it -/
def Cl (d k : Nat) (as : List KV) (g : KG) (h : KH) (Q : Option KV → KG → KH → Prop) : Prop := ∃ e : Nat, d = e + 1 ∧ Rn e k 0 (mkl as (mloc k)) [] g h Q
/-- one object more -/
def gnew (g : KG) (c n z : Int) : KG := (gN g + 1, kset (gK g) (gN g) c, kset (gL g) (gN g) n, gC g + 1, gS g + z)
section RUNNING
variable {d k pc len nx : Nat} {ins : Instr} {ls st : List KV} {g g1 : KG} {h h1 : KH} {Q : Option KV → KG → KH → Prop}
theorem Rn_ret {r : Option KV} (hf : fetch k pc = some (ins, nx)) (hr : rets k ins st = some r) : Rn d k pc ls st g h Q = Q r g h := by
  apply propext
  constructor
  · rintro ⟨f, r1, g1, h1, he, hq⟩
    cases f with
    | zero => simp [exec] at he
    | succ f =>
      rw [exec, hf] at he
      simp only [hr, Option.some.injEq, Prod.mk.injEq] at he
      obtain ⟨rfl, rfl, rfl⟩ := he
      exact hq
  · intro hq
    exact ⟨1, r, g, h, by rw [exec, hf]; simp only [hr], hq⟩
theorem Rn_step {pc1 : Nat} {ls1 st1 : List KV} (hf : fetch k pc = some (ins, nx)) (hr : rets k ins st = none) (hc : calls k ins st g = none) (hs : stp k pc ins nx ls st g h = some (pc1, ls1, st1, g1, h1)) : Rn d k pc ls st g h Q = Rn d k pc1 ls1 st1 g1 h1 Q := by
  apply propext
  constructor
  · rintro ⟨f, r2, g2, h2, he, hq⟩
    cases f with
    | zero => simp [exec] at he
    | succ f =>
      rw [exec, hf] at he
      simp only [hr, hc, hs] at he
      exact ⟨f, r2, g2, h2, he, hq⟩
  · rintro ⟨f, r2, g2, h2, he, hq⟩
    exact ⟨f + 1, r2, g2, h2, by rw [exec, hf]; simp only [hr, hc, hs]; exact he, hq⟩
theorem Rn_stuck (hf : fetch k pc = some (ins, nx)) (hr : rets k ins st = none) (hc : calls k ins st g = none) (hs : stp k pc ins nx ls st g h = none) : Rn d k pc ls st g h Q = False := by
  apply propext
  constructor
  · rintro ⟨f, r2, g2, h2, he, hq⟩
    cases f with
    | zero => simp [exec] at he
    | succ f =>
      rw [exec, hf] at he
      simp only [hr, hc, hs] at he
      cases he
  · exact False.elim
theorem Rn_call {k2 : Nat} {as rest : List KV} (hf : fetch k pc = some (ins, nx)) (hr : rets k ins st = none) (hc : calls k ins st g = some (k2, as, rest)) : Rn d k pc ls st g h Q = Cl d k2 as g h (fun r g1 h1 => Rn d k nx ls (r.toList ++ rest) g1 h1 Q) := by
  apply propext
  constructor
  · rintro ⟨f, r2, g2, h2, he, hq⟩
    cases f with
    | zero => simp [exec] at he
    | succ f =>
      rw [exec, hf] at he
      simp only [hr, hc] at he
      cases d with
      | zero => simp at he
      | succ e =>
        simp only at he
        cases hx : exec f e k2 0 (mkl as (mloc k2)) [] g h with
        | none => rw [hx] at he; simp at he
        | some q =>
          obtain ⟨r, g1, h1⟩ := q
          rw [hx] at he
          simp only at he
          exact ⟨e, rfl, f, r, g1, h1, hx, f, r2, g2, h2, he, hq⟩
  · rintro ⟨e, rfl, f, r, g1, h1, hx, f2, r2, g2, h2, he, hq⟩
    refine ⟨max f f2 + 1, r2, g2, h2, ?_, hq⟩
    rw [exec, hf]
    simp only [hr, hc]
    rw [exec_mono _ _ _ _ _ _ _ _ _ hx (max f f2) (Nat.le_max_left _ _)]
    simp only
    exact exec_mono _ _ _ _ _ _ _ _ _ he (max f f2) (Nat.le_max_right _ _)
/-- a step that has a condition -/
theorem Rn_if {c : Prop} [Decidable c] {pc1 : Nat} {ls1 st1 : List KV} (hf : fetch k pc = some (ins, nx)) (hr : rets k ins st = none) (hc : calls k ins st g = none) (hs : stp k pc ins nx ls st g h = if c then some (pc1, ls1, st1, g1, h1) else none) : Rn d k pc ls st g h Q = (c ∧ Rn d k pc1 ls1 st1 g1 h1 Q) := by
  by_cases q : c
  · rw [if_pos q] at hs
    rw [Rn_step hf hr hc hs]
    simp [q]
  · rw [if_neg q] at hs
    rw [Rn_stuck hf hr hc hs]
    simp [q]
theorem Rn_br {c : Prop} [Decidable c] {pc1 pc2 : Nat} {ls1 st1 : List KV} (hf : fetch k pc = some (ins, nx)) (hr : rets k ins st = none) (hc : calls k ins st g = none) (hs : stp k pc ins nx ls st g h = if c then some (pc1, ls1, st1, g1, h1) else some (pc2, ls1, st1, g1, h1)) : Rn d k pc ls st g h Q = if c then Rn d k pc1 ls1 st1 g1 h1 Q else Rn d k pc2 ls1 st1 g1 h1 Q := by
  by_cases q : c
  · rw [if_pos q] at hs
    rw [Rn_step hf hr hc hs, if_pos q]
  · rw [if_neg q] at hs
    rw [Rn_step hf hr hc hs, if_neg q]
theorem jmp_to {off : Int} {t : Nat} (ht : (pc : Int) + off = (t : Int)) : jmp pc off ls st g h = some (t, ls, st, g, h) := by
  unfold jmp
  rw [ht, if_pos (Int.natCast_nonneg t)]
  simp

theorem R_iconst {n v : Int} (hf : fetch k pc = some (.iconst n, nx)) (hv : w32 n = v) : Rn d k pc ls st g h Q = Rn d k nx ls (xI v :: st) g h Q := hv ▸ Rn_step hf rfl rfl rfl
theorem R_bipush {n v : Int} (hf : fetch k pc = some (.bipush n, nx)) (hv : w8 n = v) : Rn d k pc ls st g h Q = Rn d k nx ls (xI v :: st) g h Q := hv ▸ Rn_step hf rfl rfl rfl
theorem R_sipush {n v : Int} (hf : fetch k pc = some (.sipush n, nx)) (hv : w16 n = v) : Rn d k pc ls st g h Q = Rn d k nx ls (xI v :: st) g h Q := hv ▸ Rn_step hf rfl rfl rfl
theorem R_lconst {n : Fin 2} {v : Int} (hf : fetch k pc = some (.lconst n, nx)) (hv : ((n.val : Nat) : Int) = v) : Rn d k pc ls st g h Q = Rn d k nx ls (xL v :: st) g h Q := hv ▸ Rn_step hf rfl rfl rfl
theorem R_ldc {i : Nat} {v : Int} (hf : fetch k pc = some (.ldc i, nx)) (hv : kst (mcls k) i = some (0, v)) : Rn d k pc ls st g h Q = Rn d k nx ls (xI v :: st) g h Q := Rn_step hf rfl rfl (by simp only [stp, hv])
theorem R_ldcS {i : Nat} {v : Int} (hf : fetch k pc = some (.ldc i, nx)) (hv : kst (mcls k) i = some (2, v)) : Rn d k pc ls st g h Q = Rn d k nx ls (xR v :: st) g h Q := Rn_step hf rfl rfl (by simp only [stp, hv])
theorem R_ldc_w {i : Nat} {v : Int} (hf : fetch k pc = some (.ldc_w i, nx)) (hv : kst (mcls k) i = some (0, v)) : Rn d k pc ls st g h Q = Rn d k nx ls (xI v :: st) g h Q := Rn_step hf rfl rfl (by simp only [stp, hv])
theorem R_ldc2 {i : Nat} {v : Int} (hf : fetch k pc = some (.ldc2_w i, nx)) (hv : kst (mcls k) i = some (1, v)) : Rn d k pc ls st g h Q = Rn d k nx ls (xL v :: st) g h Q := Rn_step hf rfl rfl (by simp only [stp, hv])
theorem R_iload_n {j : Fin 4} {a : Int} (hf : fetch k pc = some (.iload_n j, nx)) (hl : ls[j.val]? = some (xI a)) : Rn d k pc ls st g h Q = Rn d k nx ls (xI a :: st) g h Q := Rn_step hf rfl rfl (by simp only [stp, ldI, hl, nxs])
theorem R_iload {j : Nat} {a : Int} (hf : fetch k pc = some (.iload j, nx)) (hl : ls[j]? = some (xI a)) : Rn d k pc ls st g h Q = Rn d k nx ls (xI a :: st) g h Q := Rn_step hf rfl rfl (by simp only [stp, ldI, hl, nxs])
theorem R_lload_n {j : Fin 4} {a : Int} (hf : fetch k pc = some (.lload_n j, nx)) (hl : ls[j.val]? = some (xL a)) : Rn d k pc ls st g h Q = Rn d k nx ls (xL a :: st) g h Q := Rn_step hf rfl rfl (by simp only [stp, ldL, hl, nxs])
theorem R_lload {j : Nat} {a : Int} (hf : fetch k pc = some (.lload j, nx)) (hl : ls[j]? = some (xL a)) : Rn d k pc ls st g h Q = Rn d k nx ls (xL a :: st) g h Q := Rn_step hf rfl rfl (by simp only [stp, ldL, hl, nxs])
theorem R_aload_n {j : Fin 4} {a : Int} (hf : fetch k pc = some (.aload_n j, nx)) (hl : ls[j.val]? = some (xR a)) : Rn d k pc ls st g h Q = Rn d k nx ls (xR a :: st) g h Q := Rn_step hf rfl rfl (by simp only [stp, ldR, hl, nxs])
theorem R_aload {j : Nat} {a : Int} (hf : fetch k pc = some (.aload j, nx)) (hl : ls[j]? = some (xR a)) : Rn d k pc ls st g h Q = Rn d k nx ls (xR a :: st) g h Q := Rn_step hf rfl rfl (by simp only [stp, ldR, hl, nxs])
theorem R_istore_n {j : Fin 4} {a : Int} {ls1 : List KV} (hf : fetch k pc = some (.istore_n j, nx)) (hj : j.val < ls.length) (hl : stI ls j.val (xI a) = ls1) : Rn d k pc ls (xI a :: st) g h Q = Rn d k nx ls1 st g h Q := Rn_step hf rfl rfl (by simp only [stp, soI, hj, if_true, hl, nxl])
theorem R_istore {j : Nat} {a : Int} {ls1 : List KV} (hf : fetch k pc = some (.istore j, nx)) (hj : j < ls.length) (hl : stI ls j (xI a) = ls1) : Rn d k pc ls (xI a :: st) g h Q = Rn d k nx ls1 st g h Q := Rn_step hf rfl rfl (by simp only [stp, soI, hj, if_true, hl, nxl])
theorem R_lstore_n {j : Fin 4} {a : Int} {ls1 : List KV} (hf : fetch k pc = some (.lstore_n j, nx)) (hj : j.val + 1 < ls.length) (hl : stL ls j.val (xL a) = ls1) : Rn d k pc ls (xL a :: st) g h Q = Rn d k nx ls1 st g h Q := Rn_step hf rfl rfl (by simp only [stp, soL, hj, if_true, hl, nxl])
theorem R_lstore {j : Nat} {a : Int} {ls1 : List KV} (hf : fetch k pc = some (.lstore j, nx)) (hj : j + 1 < ls.length) (hl : stL ls j (xL a) = ls1) : Rn d k pc ls (xL a :: st) g h Q = Rn d k nx ls1 st g h Q := Rn_step hf rfl rfl (by simp only [stp, soL, hj, if_true, hl, nxl])
theorem R_astore_n {j : Fin 4} {a : Int} {ls1 : List KV} (hf : fetch k pc = some (.astore_n j, nx)) (hj : j.val < ls.length) (hl : stI ls j.val (xR a) = ls1) : Rn d k pc ls (xR a :: st) g h Q = (0 ≤ a ∧ Rn d k nx ls1 st g h Q) := Rn_if hf rfl rfl (by simp only [stp, soR, hj, true_and, hl]; split <;> simp [nxl, *])
theorem R_astore {j : Nat} {a : Int} {ls1 : List KV} (hf : fetch k pc = some (.astore j, nx)) (hj : j < ls.length) (hl : stI ls j (xR a) = ls1) : Rn d k pc ls (xR a :: st) g h Q = (0 ≤ a ∧ Rn d k nx ls1 st g h Q) := Rn_if hf rfl rfl (by simp only [stp, soR, hj, true_and, hl]; split <;> simp [nxl, *])
theorem R_iinc {j : Nat} {n a : Int} {ls1 : List KV} (hf : fetch k pc = some (.iinc j n, nx)) (hl : ls[j]? = some (xI a)) (h1 : stI ls j (xI (w32 (a + n))) = ls1) : Rn d k pc ls st g h Q = Rn d k nx ls1 st g h Q := Rn_step hf rfl rfl (by simp only [stp, hl, h1])
theorem R_iadd {a b : Int} (hf : fetch k pc = some (.iadd, nx)) : Rn d k pc ls (xI b :: xI a :: st) g h Q = Rn d k nx ls (xI (w32 (a + b)) :: st) g h Q := Rn_step hf rfl rfl rfl
theorem R_isub {a b : Int} (hf : fetch k pc = some (.isub, nx)) : Rn d k pc ls (xI b :: xI a :: st) g h Q = Rn d k nx ls (xI (w32 (a - b)) :: st) g h Q := Rn_step hf rfl rfl rfl
theorem R_imul {a b : Int} (hf : fetch k pc = some (.imul, nx)) : Rn d k pc ls (xI b :: xI a :: st) g h Q = Rn d k nx ls (xI (w32 (a * b)) :: st) g h Q := Rn_step hf rfl rfl rfl
theorem R_iand {a b : Int} (hf : fetch k pc = some (.iand, nx)) : Rn d k pc ls (xI b :: xI a :: st) g h Q = Rn d k nx ls (xI (and32 a b) :: st) g h Q := Rn_step hf rfl rfl rfl
theorem R_ior {a b : Int} (hf : fetch k pc = some (.ior, nx)) : Rn d k pc ls (xI b :: xI a :: st) g h Q = Rn d k nx ls (xI (or32 a b) :: st) g h Q := Rn_step hf rfl rfl rfl
theorem R_ixor {a b : Int} (hf : fetch k pc = some (.ixor, nx)) : Rn d k pc ls (xI b :: xI a :: st) g h Q = Rn d k nx ls (xI (xor32 a b) :: st) g h Q := Rn_step hf rfl rfl rfl
theorem R_ladd {a b : Int} (hf : fetch k pc = some (.ladd, nx)) : Rn d k pc ls (xL b :: xL a :: st) g h Q = Rn d k nx ls (xL (w64 (a + b)) :: st) g h Q := Rn_step hf rfl rfl rfl
theorem R_lsub {a b : Int} (hf : fetch k pc = some (.lsub, nx)) : Rn d k pc ls (xL b :: xL a :: st) g h Q = Rn d k nx ls (xL (w64 (a - b)) :: st) g h Q := Rn_step hf rfl rfl rfl
theorem R_lmul {a b : Int} (hf : fetch k pc = some (.lmul, nx)) : Rn d k pc ls (xL b :: xL a :: st) g h Q = Rn d k nx ls (xL (w64 (a * b)) :: st) g h Q := Rn_step hf rfl rfl rfl
theorem R_land {a b : Int} (hf : fetch k pc = some (.land, nx)) : Rn d k pc ls (xL b :: xL a :: st) g h Q = Rn d k nx ls (xL (and64 a b) :: st) g h Q := Rn_step hf rfl rfl rfl
theorem R_lor {a b : Int} (hf : fetch k pc = some (.lor, nx)) : Rn d k pc ls (xL b :: xL a :: st) g h Q = Rn d k nx ls (xL (or64 a b) :: st) g h Q := Rn_step hf rfl rfl rfl
theorem R_lxor {a b : Int} (hf : fetch k pc = some (.lxor, nx)) : Rn d k pc ls (xL b :: xL a :: st) g h Q = Rn d k nx ls (xL (xor64 a b) :: st) g h Q := Rn_step hf rfl rfl rfl
theorem R_lshl {a b : Int} (hf : fetch k pc = some (.lshl, nx)) : Rn d k pc ls (xI b :: xL a :: st) g h Q = ((0 ≤ b ∧ b < 64) ∧ Rn d k nx ls (xL (shl64 a b) :: st) g h Q) := Rn_if hf rfl rfl (by simp only [stp, sh32, sh64]; split <;> simp [nxs, *])
theorem R_lshr {a b : Int} (hf : fetch k pc = some (.lshr, nx)) : Rn d k pc ls (xI b :: xL a :: st) g h Q = ((0 ≤ b ∧ b < 64) ∧ Rn d k nx ls (xL (shr64 a b) :: st) g h Q) := Rn_if hf rfl rfl (by simp only [stp, sh32, sh64]; split <;> simp [nxs, *])
theorem R_ishl {a b : Int} (hf : fetch k pc = some (.ishl, nx)) : Rn d k pc ls (xI b :: xI a :: st) g h Q = ((0 ≤ b ∧ b < 32) ∧ Rn d k nx ls (xI (shl32 a b) :: st) g h Q) := Rn_if hf rfl rfl (by simp only [stp, sh32, sh64]; split <;> simp [nxs, *])
theorem R_ishr {a b : Int} (hf : fetch k pc = some (.ishr, nx)) : Rn d k pc ls (xI b :: xI a :: st) g h Q = ((0 ≤ b ∧ b < 32) ∧ Rn d k nx ls (xI (shr32 a b) :: st) g h Q) := Rn_if hf rfl rfl (by simp only [stp, sh32, sh64]; split <;> simp [nxs, *])
theorem R_iushr {a b : Int} (hf : fetch k pc = some (.iushr, nx)) : Rn d k pc ls (xI b :: xI a :: st) g h Q = ((0 ≤ b ∧ b < 32) ∧ Rn d k nx ls (xI (ushr32 a b) :: st) g h Q) := Rn_if hf rfl rfl (by simp only [stp, sh32, sh64]; split <;> simp [nxs, *])
theorem R_idiv {a b : Int} (hf : fetch k pc = some (.idiv, nx)) : Rn d k pc ls (xI b :: xI a :: st) g h Q = (b ≠ 0 ∧ Rn d k nx ls (xI (w32 (Int.tdiv a b)) :: st) g h Q) := Rn_if hf rfl rfl (by simp only [stp, div32, div64, ne_eq]; split <;> simp [nxs, *])
theorem R_irem {a b : Int} (hf : fetch k pc = some (.irem, nx)) : Rn d k pc ls (xI b :: xI a :: st) g h Q = (b ≠ 0 ∧ Rn d k nx ls (xI (Int.tmod a b) :: st) g h Q) := Rn_if hf rfl rfl (by simp only [stp, div32, div64, ne_eq]; split <;> simp [nxs, *])
theorem R_ldiv {a b : Int} (hf : fetch k pc = some (.ldiv, nx)) : Rn d k pc ls (xL b :: xL a :: st) g h Q = (b ≠ 0 ∧ Rn d k nx ls (xL (w64 (Int.tdiv a b)) :: st) g h Q) := Rn_if hf rfl rfl (by simp only [stp, div32, div64, ne_eq]; split <;> simp [nxs, *])
theorem R_lrem {a b : Int} (hf : fetch k pc = some (.lrem, nx)) : Rn d k pc ls (xL b :: xL a :: st) g h Q = (b ≠ 0 ∧ Rn d k nx ls (xL (Int.tmod a b) :: st) g h Q) := Rn_if hf rfl rfl (by simp only [stp, div32, div64, ne_eq]; split <;> simp [nxs, *])
theorem R_i2l {a : Int} (hf : fetch k pc = some (.i2l, nx)) : Rn d k pc ls (xI a :: st) g h Q = Rn d k nx ls (xL a :: st) g h Q := Rn_step hf rfl rfl rfl
theorem R_l2i {a : Int} (hf : fetch k pc = some (.l2i, nx)) : Rn d k pc ls (xL a :: st) g h Q = Rn d k nx ls (xI (w32 a) :: st) g h Q := Rn_step hf rfl rfl rfl
theorem R_i2b {a : Int} (hf : fetch k pc = some (.i2b, nx)) : Rn d k pc ls (xI a :: st) g h Q = Rn d k nx ls (xI (w8 a) :: st) g h Q := Rn_step hf rfl rfl rfl
theorem R_i2s {a : Int} (hf : fetch k pc = some (.i2s, nx)) : Rn d k pc ls (xI a :: st) g h Q = Rn d k nx ls (xI (w16 a) :: st) g h Q := Rn_step hf rfl rfl rfl
theorem R_lcmp {a b : Int} (hf : fetch k pc = some (.lcmp, nx)) : Rn d k pc ls (xL b :: xL a :: st) g h Q = Rn d k nx ls (xI (cmp64 a b) :: st) g h Q := Rn_step hf rfl rfl rfl
theorem R_dupI {a : Int} (hf : fetch k pc = some (.dup, nx)) : Rn d k pc ls (xI a :: st) g h Q = Rn d k nx ls (xI a :: xI a :: st) g h Q := Rn_step hf rfl rfl rfl
theorem R_dupR {a : Int} (hf : fetch k pc = some (.dup, nx)) : Rn d k pc ls (xR a :: st) g h Q = Rn d k nx ls (xR a :: xR a :: st) g h Q := Rn_step hf rfl rfl rfl
theorem R_dup2 {a b : Int} (hf : fetch k pc = some (.dup2, nx)) : Rn d k pc ls (xI b :: xR a :: st) g h Q = Rn d k nx ls (xI b :: xR a :: xI b :: xR a :: st) g h Q := Rn_step hf rfl rfl rfl
theorem R_pop {a : Int} (hf : fetch k pc = some (.pop, nx)) : Rn d k pc ls (xI a :: st) g h Q = Rn d k nx ls st g h Q := Rn_step hf rfl rfl rfl
theorem R_icmp_eq {a b off : Int} {t : Nat} (hf : fetch k pc = some (.if_icmp .eq off, nx)) (ht : (pc : Int) + off = (t : Int)) : Rn d k pc ls (xI b :: xI a :: st) g h Q = if a = b then Rn d k t ls st g h Q else Rn d k nx ls st g h Q := Rn_br hf rfl rfl (by simp only [stp, cnd, jmp_to ht, decide_eq_true_eq])
theorem R_if_eq {a off : Int} {t : Nat} (hf : fetch k pc = some (.ifCond .eq off, nx)) (ht : (pc : Int) + off = (t : Int)) : Rn d k pc ls (xI a :: st) g h Q = if a = 0 then Rn d k t ls st g h Q else Rn d k nx ls st g h Q := Rn_br hf rfl rfl (by simp only [stp, cnd, jmp_to ht, decide_eq_true_eq])
theorem R_icmp_ne {a b off : Int} {t : Nat} (hf : fetch k pc = some (.if_icmp .ne off, nx)) (ht : (pc : Int) + off = (t : Int)) : Rn d k pc ls (xI b :: xI a :: st) g h Q = if a ≠ b then Rn d k t ls st g h Q else Rn d k nx ls st g h Q := Rn_br hf rfl rfl (by simp only [stp, cnd, jmp_to ht, decide_eq_true_eq])
theorem R_if_ne {a off : Int} {t : Nat} (hf : fetch k pc = some (.ifCond .ne off, nx)) (ht : (pc : Int) + off = (t : Int)) : Rn d k pc ls (xI a :: st) g h Q = if a ≠ 0 then Rn d k t ls st g h Q else Rn d k nx ls st g h Q := Rn_br hf rfl rfl (by simp only [stp, cnd, jmp_to ht, decide_eq_true_eq])
theorem R_icmp_lt {a b off : Int} {t : Nat} (hf : fetch k pc = some (.if_icmp .lt off, nx)) (ht : (pc : Int) + off = (t : Int)) : Rn d k pc ls (xI b :: xI a :: st) g h Q = if a < b then Rn d k t ls st g h Q else Rn d k nx ls st g h Q := Rn_br hf rfl rfl (by simp only [stp, cnd, jmp_to ht, decide_eq_true_eq])
theorem R_if_lt {a off : Int} {t : Nat} (hf : fetch k pc = some (.ifCond .lt off, nx)) (ht : (pc : Int) + off = (t : Int)) : Rn d k pc ls (xI a :: st) g h Q = if a < 0 then Rn d k t ls st g h Q else Rn d k nx ls st g h Q := Rn_br hf rfl rfl (by simp only [stp, cnd, jmp_to ht, decide_eq_true_eq])
theorem R_icmp_ge {a b off : Int} {t : Nat} (hf : fetch k pc = some (.if_icmp .ge off, nx)) (ht : (pc : Int) + off = (t : Int)) : Rn d k pc ls (xI b :: xI a :: st) g h Q = if b ≤ a then Rn d k t ls st g h Q else Rn d k nx ls st g h Q := Rn_br hf rfl rfl (by simp only [stp, cnd, jmp_to ht, decide_eq_true_eq])
theorem R_if_ge {a off : Int} {t : Nat} (hf : fetch k pc = some (.ifCond .ge off, nx)) (ht : (pc : Int) + off = (t : Int)) : Rn d k pc ls (xI a :: st) g h Q = if 0 ≤ a then Rn d k t ls st g h Q else Rn d k nx ls st g h Q := Rn_br hf rfl rfl (by simp only [stp, cnd, jmp_to ht, decide_eq_true_eq])
theorem R_icmp_gt {a b off : Int} {t : Nat} (hf : fetch k pc = some (.if_icmp .gt off, nx)) (ht : (pc : Int) + off = (t : Int)) : Rn d k pc ls (xI b :: xI a :: st) g h Q = if b < a then Rn d k t ls st g h Q else Rn d k nx ls st g h Q := Rn_br hf rfl rfl (by simp only [stp, cnd, jmp_to ht, decide_eq_true_eq])
theorem R_if_gt {a off : Int} {t : Nat} (hf : fetch k pc = some (.ifCond .gt off, nx)) (ht : (pc : Int) + off = (t : Int)) : Rn d k pc ls (xI a :: st) g h Q = if 0 < a then Rn d k t ls st g h Q else Rn d k nx ls st g h Q := Rn_br hf rfl rfl (by simp only [stp, cnd, jmp_to ht, decide_eq_true_eq])
theorem R_icmp_le {a b off : Int} {t : Nat} (hf : fetch k pc = some (.if_icmp .le off, nx)) (ht : (pc : Int) + off = (t : Int)) : Rn d k pc ls (xI b :: xI a :: st) g h Q = if a ≤ b then Rn d k t ls st g h Q else Rn d k nx ls st g h Q := Rn_br hf rfl rfl (by simp only [stp, cnd, jmp_to ht, decide_eq_true_eq])
theorem R_if_le {a off : Int} {t : Nat} (hf : fetch k pc = some (.ifCond .le off, nx)) (ht : (pc : Int) + off = (t : Int)) : Rn d k pc ls (xI a :: st) g h Q = if a ≤ 0 then Rn d k t ls st g h Q else Rn d k nx ls st g h Q := Rn_br hf rfl rfl (by simp only [stp, cnd, jmp_to ht, decide_eq_true_eq])
theorem R_goto {off : Int} {t : Nat} (hf : fetch k pc = some (.goto off, nx)) (ht : (pc : Int) + off = (t : Int)) : Rn d k pc ls st g h Q = Rn d k t ls st g h Q := Rn_step hf rfl rfl (jmp_to ht)
/-- a tableswitch as a chain of questions -/
def Sw (d k : Nat) (ls st : List KV) (g : KG) (h : KH) (Q : Option KV → KG → KH → Prop) (a : Int) (df : Nat) : List (Int × Nat) → Prop
  | [] => Rn d k df ls st g h Q
  | (v, t) :: l => if a = v then Rn d k t ls st g h Q else Sw d k ls st g h Q a df l
theorem Sw_nil {a : Int} {df : Nat} : Sw d k ls st g h Q a df [] = Rn d k df ls st g h Q := rfl
theorem Sw_cons {a v : Int} {df t : Nat} {l : List (Int × Nat)} : Sw d k ls st g h Q a df ((v, t) :: l) = if a = v then Rn d k t ls st g h Q else Sw d k ls st g h Q a df l := rfl
theorem Sw_of {a : Int} {df : Nat} {ps : List (Int × Nat)} {P : Prop} (hd : (∀ q ∈ ps, a ≠ q.1) → P = Rn d k df ls st g h Q) (hc : ∀ q ∈ ps, a = q.1 → P = Rn d k q.2 ls st g h Q) : P = Sw d k ls st g h Q a df ps := by
  induction ps with
  | nil => exact hd (fun q hq => by cases hq)
  | cons q l ih =>
    obtain ⟨v, t⟩ := q
    by_cases e : a = v
    · rw [Sw, if_pos e]; exact hc (v, t) List.mem_cons_self e
    · rw [Sw, if_neg e]
      refine ih (fun h => hd (fun q hq => ?_)) (fun q hq he => hc q (List.mem_cons_of_mem _ hq) he)
      rcases List.mem_cons.mp hq with rfl | hq
      · exact e
      · exact h q hq
theorem R_tsw {a df lo hi : Int} {offs : Array Int} {dt : Nat} {ps : List (Int × Nat)} (hf : fetch k pc = some (.tableswitch df lo hi offs, nx)) (hd : (pc : Int) + df = (dt : Int)) (hp : ps.all (fun q => decide (lo ≤ q.1 ∧ q.1 ≤ hi) && (match offs[(q.1 - lo).toNat]? with | some off => decide ((pc : Int) + off = (q.2 : Int)) | none => false)) = true) (hr : (List.range (hi - lo + 1).toNat).all (fun j => ps.any (fun q => decide (q.1 = lo + (j : Int)))) = true) : Rn d k pc ls (xI a :: st) g h Q = Sw d k ls st g h Q a dt ps := by
  refine Sw_of (fun hn => ?_) (fun q hq he => ?_)
  · refine Rn_step hf rfl rfl ?_
    have : a < lo ∨ hi < a := by
      rcases Int.lt_or_le a lo with h1 | h1
      · exact Or.inl h1
      · rcases Int.lt_or_le hi a with h2 | h2
        · exact Or.inr h2
        · exfalso
          have h3 := List.all_eq_true.mp hr (a - lo).toNat (by rw [List.mem_range]; omega)
          obtain ⟨q, hq, he⟩ := List.any_eq_true.mp h3
          have he := of_decide_eq_true he
          exact hn q hq (by omega)
    simp only [stp, if_pos this, jmp_to hd]
  · refine Rn_step hf rfl rfl ?_
    have h1 := List.all_eq_true.mp hp q hq
    rw [Bool.and_eq_true] at h1
    obtain ⟨h1, h2⟩ := h1
    have h1 := of_decide_eq_true h1
    have hno : ¬ (a < lo ∨ hi < a) := by omega
    rw [← he] at h2
    simp only [stp, if_neg hno]
    cases ho : offs[(a - lo).toNat]? with
    | none => rw [ho] at h2; cases h2
    | some off =>
      rw [ho] at h2
      exact jmp_to (of_decide_eq_true h2)
theorem lksw_of {a df : Int} : ∀ (ps : List (Int × Int)), (∀ q ∈ ps, a ≠ q.1) → lksw ps a df = df
  | [], _ => rfl
  | (x, y) :: l, hn => by rw [lksw, if_neg (hn (x, y) List.mem_cons_self)]; exact lksw_of l (fun q hq => hn q (List.mem_cons_of_mem _ hq))
theorem R_lsw {a df : Int} {pa : Array (Int × Int)} {dt : Nat} {ps : List (Int × Nat)} (hf : fetch k pc = some (.lookupswitch df pa, nx)) (hd : (pc : Int) + df = (dt : Int)) (hm : pa.toList = ps.map (fun q => (q.1, (q.2 : Int) - (pc : Int)))) (hz : (pa.toList.zip (pa.toList.drop 1)).all (fun q => decide (q.1.1 < q.2.1)) = true) (hu : ps.all (fun q => decide (lksw pa.toList q.1 df = (q.2 : Int) - (pc : Int))) = true) : Rn d k pc ls (xI a :: st) g h Q = Sw d k ls st g h Q a dt ps := by
  refine Sw_of (fun hn => ?_) (fun q hq he => ?_)
  · refine Rn_step hf rfl rfl ?_
    have : lksw pa.toList a df = df := lksw_of _ (fun q hq => by rw [hm] at hq; obtain ⟨z, hz1, rfl⟩ := List.mem_map.mp hq; exact hn z hz1)
    simp only [stp, hz, if_true, this]
    exact jmp_to hd
  · refine Rn_step hf rfl rfl ?_
    have h1 := of_decide_eq_true (List.all_eq_true.mp hu q hq)
    simp only [stp, hz, if_true, he]
    exact jmp_to (by rw [h1]; omega)

theorem R_getI {i c j : Nat} {a c1 j1 : Int} (hf : fetch k pc = some (.getfield i, nx)) (hi : fld (mcls k) i = some (c, j, 0)) (hc : (c : Int) = c1) (hj : (j : Int) = j1) : Rn d k pc ls (xR a :: st) g h Q = (gK g a = c1 ∧ Rn d k nx ls (xI (h a j1) :: st) g h Q) := by subst hc; subst hj; exact Rn_if hf rfl rfl (by simp only [stp, hi, xpush])
theorem R_getL {i c j : Nat} {a c1 j1 : Int} (hf : fetch k pc = some (.getfield i, nx)) (hi : fld (mcls k) i = some (c, j, 1)) (hc : (c : Int) = c1) (hj : (j : Int) = j1) : Rn d k pc ls (xR a :: st) g h Q = (gK g a = c1 ∧ Rn d k nx ls (xL (h a j1) :: st) g h Q) := by subst hc; subst hj; exact Rn_if hf rfl rfl (by simp only [stp, hi, xpush])
theorem R_getR {i c j : Nat} {a c1 j1 : Int} (hf : fetch k pc = some (.getfield i, nx)) (hi : fld (mcls k) i = some (c, j, 2)) (hc : (c : Int) = c1) (hj : (j : Int) = j1) : Rn d k pc ls (xR a :: st) g h Q = (gK g a = c1 ∧ Rn d k nx ls (xR (h a j1) :: st) g h Q) := by subst hc; subst hj; exact Rn_if hf rfl rfl (by simp only [stp, hi, xpush])
theorem R_getZ {i c j : Nat} {a c1 j1 : Int} (hf : fetch k pc = some (.getfield i, nx)) (hi : fld (mcls k) i = some (c, j, 3)) (hc : (c : Int) = c1) (hj : (j : Int) = j1) : Rn d k pc ls (xR a :: st) g h Q = (gK g a = c1 ∧ Rn d k nx ls (xI (h a j1) :: st) g h Q) := by subst hc; subst hj; exact Rn_if hf rfl rfl (by simp only [stp, hi, xpush])
theorem R_putI {i c j : Nat} {a v c1 j1 : Int} (hf : fetch k pc = some (.putfield i, nx)) (hi : fld (mcls k) i = some (c, j, 0)) (hn : ffi c j = false) (hc : (c : Int) = c1) (hj : (j : Int) = j1) : Rn d k pc ls (xI v :: xR a :: st) g h Q = (gK g a = c1 ∧ Rn d k nx ls st g (hset h a j1 v) Q) := by subst hc; subst hj; exact Rn_if hf rfl rfl (by simp [stp, hi, hn])
theorem R_putZ {i c j : Nat} {a v c1 j1 : Int} (hf : fetch k pc = some (.putfield i, nx)) (hi : fld (mcls k) i = some (c, j, 3)) (hn : ffi c j = false) (hc : (c : Int) = c1) (hj : (j : Int) = j1) : Rn d k pc ls (xI v :: xR a :: st) g h Q = ((gK g a = c1 ∧ 0 ≤ v ∧ v ≤ 1) ∧ Rn d k nx ls st g (hset h a j1 v) Q) := by subst hc; subst hj; exact Rn_if hf rfl rfl (by simp [stp, hi, hn])
theorem R_putL {i c j : Nat} {a v c1 j1 : Int} (hf : fetch k pc = some (.putfield i, nx)) (hi : fld (mcls k) i = some (c, j, 1)) (hn : ffi c j = false) (hc : (c : Int) = c1) (hj : (j : Int) = j1) : Rn d k pc ls (xL v :: xR a :: st) g h Q = (gK g a = c1 ∧ Rn d k nx ls st g (hset h a j1 v) Q) := by subst hc; subst hj; exact Rn_if hf rfl rfl (by simp [stp, hi, hn])
theorem R_putR {i c j : Nat} {a v c1 j1 : Int} (hf : fetch k pc = some (.putfield i, nx)) (hi : fld (mcls k) i = some (c, j, 2)) (hn : ffi c j = false ∨ (minit k = true ∧ mcls k = c)) (hc : (c : Int) = c1) (hj : (j : Int) = j1) : Rn d k pc ls (xR v :: xR a :: st) g h Q = ((gK g a = c1 ∧ 0 ≤ v) ∧ Rn d k nx ls st g (hset h a j1 v) Q) := by subst hc; subst hj; exact Rn_if hf rfl rfl (by simp [stp, hi, hn])
theorem R_iaload {i a : Int} (hf : fetch k pc = some (.iaload, nx)) : Rn d k pc ls (xI i :: xR a :: st) g h Q = ((gK g a = 20 ∧ 0 ≤ i ∧ i < gL g a) ∧ Rn d k nx ls (xI (h a i) :: st) g h Q) := Rn_if hf rfl rfl (by simp only [stp, aget]; split <;> simp [nxs, *])
theorem R_laload {i a : Int} (hf : fetch k pc = some (.laload, nx)) : Rn d k pc ls (xI i :: xR a :: st) g h Q = ((gK g a = 21 ∧ 0 ≤ i ∧ i < gL g a) ∧ Rn d k nx ls (xL (h a i) :: st) g h Q) := Rn_if hf rfl rfl (by simp only [stp, aget]; split <;> simp [nxs, *])
theorem R_baload {i a : Int} (hf : fetch k pc = some (.baload, nx)) : Rn d k pc ls (xI i :: xR a :: st) g h Q = (((gK g a = 22 ∨ gK g a = 23) ∧ 0 ≤ i ∧ i < gL g a) ∧ Rn d k nx ls (xI (h a i) :: st) g h Q) := Rn_if hf rfl rfl (by simp only [stp])
theorem R_aaload {i a : Int} (hf : fetch k pc = some (.aaload, nx)) : Rn d k pc ls (xI i :: xR a :: st) g h Q = (((gK g a = 24 ∨ gK g a = 25) ∧ 0 ≤ i ∧ i < gL g a) ∧ Rn d k nx ls (xR (h a i) :: st) g h Q) := Rn_if hf rfl rfl (by simp only [stp])
theorem R_iastore {i a v : Int} (hf : fetch k pc = some (.iastore, nx)) : Rn d k pc ls (xI v :: xI i :: xR a :: st) g h Q = ((gK g a = 20 ∧ 0 ≤ a ∧ 0 ≤ i ∧ i < gL g a) ∧ Rn d k nx ls st g (hset h a i v) Q) := Rn_if hf rfl rfl (by simp only [stp, and_assoc])
theorem R_lastore {i a v : Int} (hf : fetch k pc = some (.lastore, nx)) : Rn d k pc ls (xL v :: xI i :: xR a :: st) g h Q = ((gK g a = 21 ∧ 0 ≤ i ∧ i < gL g a) ∧ Rn d k nx ls st g (hset h a i v) Q) := Rn_if hf rfl rfl (by simp only [stp, and_assoc])
theorem R_bastore {i a v : Int} (hf : fetch k pc = some (.bastore, nx)) : Rn d k pc ls (xI v :: xI i :: xR a :: st) g h Q = ((((gK g a = 22 ∧ -128 ≤ v ∧ v ≤ 127) ∨ (gK g a = 23 ∧ 0 ≤ v ∧ v ≤ 1)) ∧ 0 ≤ i ∧ i < gL g a) ∧ Rn d k nx ls st g (hset h a i v) Q) := Rn_if hf rfl rfl (by simp only [stp, and_assoc])
theorem R_aastore {i a v : Int} (hf : fetch k pc = some (.aastore, nx)) : Rn d k pc ls (xR v :: xI i :: xR a :: st) g h Q = ((((gK g a = 24 ∧ gK g v = 10) ∨ (gK g a = 25 ∧ gK g v = 7)) ∧ 0 ≤ i ∧ i < gL g a) ∧ Rn d k nx ls st g (hset h a i v) Q) := Rn_if hf rfl rfl (by simp only [stp, and_assoc])
theorem R_alen {a : Int} (hf : fetch k pc = some (.arraylength, nx)) : Rn d k pc ls (xR a :: st) g h Q = (20 ≤ gK g a ∧ Rn d k nx ls (xI (gL g a) :: st) g h Q) := Rn_if hf rfl rfl (by simp only [stp])
theorem R_new {i c : Nat} {c1 z : Int} (hf : fetch k pc = some (.new i, nx)) (hi : ncl (mcls k) i = some c) (hc : (c : Int) = c1) (hz : ((nfl c : Nat) : Int) = z) : Rn d k pc ls st g h Q = Rn d k nx ls (xR (gN g) :: st) (gnew g c1 0 z) (hnew h (gN g) (fz c)) Q := by subst hc; subst hz; exact Rn_step hf rfl rfl (by simp only [stp, hi, gnew])
theorem R_newarray {t : ArrayType} {c n : Int} (hf : fetch k pc = some (.newarray t, nx)) (hi : akind t = some c) : Rn d k pc ls (xI n :: st) g h Q = ((0 ≤ n ∧ n ≤ 60000) ∧ Rn d k nx ls (xR (gN g) :: st) (gnew g c n n) (hnew h (gN g) (fun _ => 0)) Q) := Rn_if hf rfl rfl (by simp only [stp, hi, gnew])
theorem R_anewarray {i c : Nat} {n c1 : Int} (hf : fetch k pc = some (.anewarray i, nx)) (hi : nar (mcls k) i = some c) (hc : (c : Int) = c1) : Rn d k pc ls (xI n :: st) g h Q = ((0 ≤ n ∧ n ≤ 60000) ∧ Rn d k nx ls (xR (gN g) :: st) (gnew g c1 n n) (hnew h (gN g) (fun _ => -1)) Q) := by subst hc; exact Rn_if hf rfl rfl (by simp only [stp, hi, gnew])
theorem R_objinit {i : Nat} {a : Int} (hf : fetch k pc = some (.invokespecial i, nx)) (hm : mth (mcls k) i = none) (hi : itr (mcls k) i = some 0) (hw : ((xR a :: st).map catN).sum ≤ 300) : Rn d k pc ls (xR a :: st) g h Q = ((0 ≤ a ∧ a < gN g) ∧ Rn d k nx ls st g h Q) := Rn_if hf rfl (by simp only [calls, cal, hm]) (by simp only [stp, hi, if_pos hw, xitr]; by_cases q : 0 ≤ a ∧ a < gN g <;> simp [q])
theorem R_abs {i : Nat} {a : Int} (hf : fetch k pc = some (.invokestatic i, nx)) (hm : mth (mcls k) i = none) (hi : itr (mcls k) i = some 1) (hw : ((xI a :: st).map catN).sum ≤ 300) : Rn d k pc ls (xI a :: st) g h Q = Rn d k nx ls (xI (if 0 ≤ a then a else w32 (0 - a)) :: st) g h Q := Rn_step hf rfl (by simp only [calls, cal, hm]) (by simp only [stp, hi, if_pos (show 1 ≤ 1 ∧ 1 ≤ 4 ∧ ((xI a :: st).map catN).sum ≤ 300 from ⟨by decide, by decide, hw⟩), xitr])
theorem R_max {i : Nat} {a b : Int} (hf : fetch k pc = some (.invokestatic i, nx)) (hm : mth (mcls k) i = none) (hi : itr (mcls k) i = some 2) (hw : ((xI b :: xI a :: st).map catN).sum ≤ 300) : Rn d k pc ls (xI b :: xI a :: st) g h Q = Rn d k nx ls (xI (if a < b then b else a) :: st) g h Q := Rn_step hf rfl (by simp only [calls, cal, hm]) (by simp only [stp, hi, if_pos (show 1 ≤ 2 ∧ 2 ≤ 4 ∧ ((xI b :: xI a :: st).map catN).sum ≤ 300 from ⟨by decide, by decide, hw⟩), xitr])
theorem R_min {i : Nat} {a b : Int} (hf : fetch k pc = some (.invokestatic i, nx)) (hm : mth (mcls k) i = none) (hi : itr (mcls k) i = some 3) (hw : ((xI b :: xI a :: st).map catN).sum ≤ 300) : Rn d k pc ls (xI b :: xI a :: st) g h Q = Rn d k nx ls (xI (if b < a then b else a) :: st) g h Q := Rn_step hf rfl (by simp only [calls, cal, hm]) (by simp only [stp, hi, if_pos (show 1 ≤ 3 ∧ 3 ≤ 4 ∧ ((xI b :: xI a :: st).map catN).sum ≤ 300 from ⟨by decide, by decide, hw⟩), xitr])
theorem R_copy {i0 : Nat} {a i b j n : Int} (hf : fetch k pc = some (.invokestatic i0, nx)) (hm : mth (mcls k) i0 = none) (hi : itr (mcls k) i0 = some 4) (hw : ((xI n :: xI j :: xR b :: xI i :: xR a :: st).map catN).sum ≤ 300) : Rn d k pc ls (xI n :: xI j :: xR b :: xI i :: xR a :: st) g h Q = (((gK g a = 20 ∨ gK g a = 21) ∧ gK g b = gK g a ∧ 0 ≤ a ∧ 0 ≤ b ∧ 0 ≤ i ∧ 0 ≤ j ∧ 0 ≤ n ∧ i + n ≤ gL g a ∧ j + n ≤ gL g b) ∧ Rn d k nx ls st g (hcopy h a i b j n) Q) := Rn_if hf rfl (by simp only [calls, cal, hm]) (by simp only [stp, hi, if_pos (show 1 ≤ 4 ∧ 4 ≤ 4 ∧ ((xI n :: xI j :: xR b :: xI i :: xR a :: st).map catN).sum ≤ 300 from ⟨by decide, by decide, hw⟩), xitr]; by_cases q : (gK g a = 20 ∨ gK g a = 21) ∧ gK g b = gK g a ∧ 0 ≤ a ∧ 0 ≤ b ∧ 0 ≤ i ∧ 0 ≤ j ∧ 0 ≤ n ∧ i + n ≤ gL g a ∧ j + n ≤ gL g b <;> simp [q])
theorem R_slen {i : Nat} {a : Int} (hf : fetch k pc = some (.invokevirtual i, nx)) (hm : mth (mcls k) i = none) (hi : itr (mcls k) i = some 5) (hw : ((xR a :: st).map catN).sum ≤ 8) : Rn d k pc ls (xR a :: st) g h Q = ((a = -2 ∨ a = -3) ∧ Rn d k nx ls (xI ((sby a).length : Nat) :: st) g h Q) := Rn_if hf rfl (by simp only [calls, cal, hm]) (by simp only [stp, hi, if_pos (show 5 ≤ 5 ∧ ((xR a :: st).map catN).sum ≤ 8 from ⟨by decide, hw⟩), xitr]; by_cases q : a = -2 ∨ a = -3 <;> simp [q])
theorem R_char {i0 : Nat} {a i : Int} (hf : fetch k pc = some (.invokevirtual i0, nx)) (hm : mth (mcls k) i0 = none) (hi : itr (mcls k) i0 = some 6) (hw : ((xI i :: xR a :: st).map catN).sum ≤ 8) : Rn d k pc ls (xI i :: xR a :: st) g h Q = (((a = -2 ∨ a = -3) ∧ 0 ≤ i ∧ i < ((sby a).length : Nat)) ∧ Rn d k nx ls (xI ((sby a).getD i.toNat 0) :: st) g h Q) := Rn_if hf rfl (by simp only [calls, cal, hm]) (by simp only [stp, hi, if_pos (show 5 ≤ 6 ∧ ((xI i :: xR a :: st).map catN).sum ≤ 8 from ⟨by decide, hw⟩), xitr]; by_cases q : (a = -2 ∨ a = -3) ∧ 0 ≤ i ∧ i < ((sby a).length : Nat) <;> simp [q])
theorem R_retI {v : Int} (hf : fetch k pc = some (.ireturn, nx)) (hr : mret k = 1) : Rn d k pc ls [xI v] g h Q = Q (some (xI v)) g h := Rn_ret hf (by simp [rets, hr])
theorem R_retZ {v : Int} (hf : fetch k pc = some (.ireturn, nx)) (hr : mret k = 2) : Rn d k pc ls [xI v] g h Q = ((0 ≤ v ∧ v ≤ 1) ∧ Q (some (xI v)) g h) := by
  by_cases q : 0 ≤ v ∧ v ≤ 1
  · rw [Rn_ret hf (r := some (xI v)) (by simp [rets, hr, q])]; simp [q]
  · rw [Rn_stuck hf (by simp [rets, hr, q]) rfl rfl]; simp [q]
theorem R_retL {v : Int} (hf : fetch k pc = some (.lreturn, nx)) (hr : mret k = 3) : Rn d k pc ls [xL v] g h Q = Q (some (xL v)) g h := Rn_ret hf (by simp [rets, hr])
theorem R_retV (hf : fetch k pc = some (.return_, nx)) (hr : mret k = 0) : Rn d k pc ls [] g h Q = Q none g h := Rn_ret hf (by simp [rets, hr])
/-- a call of a static method -/
theorem R_callS {i k2 n : Nat} {as rest : List KV} (hf : fetch k pc = some (.invokestatic i, nx)) (hm : mth (mcls k) i = some (k2, n, 1)) (hn : n ≤ st.length) (ha : (st.take n).reverse = as) (hr : st.drop n = rest) (hw : (rest.map catN).sum ≤ 8) (hy : (lay as).length ≤ mloc k2) : Rn d k pc ls st g h Q = Cl d k2 as g h (fun r g1 h1 => Rn d k nx ls (r.toList ++ rest) g1 h1 Q) := by
  subst ha; subst hr
  rw [List.map_drop] at hw
  exact Rn_call hf rfl (by simp only [calls, cal, hm]; rw [if_pos ⟨trivial, hn, by rw [List.map_drop]; exact hw, hy⟩, if_pos trivial])
/-- a call of an object's method -/
theorem R_callV {i k2 n : Nat} {a c : Int} {as rest : List KV} (hf : fetch k pc = some (.invokevirtual i, nx)) (hm : mth (mcls k) i = some (k2, n, 0)) (hn : n ≤ st.length) (ha : (st.take n).reverse = xR a :: as) (hr : st.drop n = rest) (hw : (rest.map catN).sum ≤ 8) (hy : (lay (xR a :: as)).length ≤ mloc k2) (hc : (mcls k2 : Int) = c) : Rn d k pc ls st g h Q = (gK g a = c ∧ Cl d k2 (xR a :: as) g h (fun r g1 h1 => Rn d k nx ls (r.toList ++ rest) g1 h1 Q)) := by
  subst hr; subst hc
  have hcl : calls k (.invokevirtual i) st g = if gK g a = (mcls k2 : Int) then some (k2, xR a :: as, st.drop n) else none := by
    simp only [calls, cal, hm]
    rw [ha, if_pos ⟨trivial, hn, hw, hy⟩, if_neg (by decide)]
  by_cases q : gK g a = (mcls k2 : Int)
  · rw [Rn_call (k2 := k2) (as := xR a :: as) (rest := st.drop n) hf rfl (by rw [hcl, if_pos q])]; simp [q]
  · rw [Rn_stuck hf rfl (by rw [hcl, if_neg q]) (by
      simp only [stp]
      split
      · exfalso
        rename_i c1 hc1
        have h1 : ∀ e ∈ itab, ∀ e2 ∈ mtabl, ¬ (e.1 = e2.1 ∧ e.2.1 = e2.2.1) := by decide +kernel
        simp only [itr, Option.map_eq_some_iff] at hc1
        simp only [mth, Option.map_eq_some_iff] at hm
        obtain ⟨e, he, -⟩ := hc1
        obtain ⟨e2, he2, -⟩ := hm
        have h3 := List.find?_some he
        have h4 := List.find?_some he2
        simp only [Bool.and_eq_true, beq_iff_eq] at h3 h4
        exact h1 e (List.mem_of_find?_eq_some he) e2 (List.mem_of_find?_eq_some he2) ⟨h3.1.trans h4.1.symm, h3.2.trans h4.2.symm⟩
      · rfl)]
    simp [q]
theorem R_callN {i k2 n : Nat} {a c : Int} {as rest : List KV} (hf : fetch k pc = some (.invokespecial i, nx)) (hm : mth (mcls k) i = some (k2, n, 2)) (hi : itr (mcls k) i = none) (hn : n ≤ st.length) (ha : (st.take n).reverse = xR a :: as) (hr : st.drop n = rest) (hw : (rest.map catN).sum ≤ 8) (hy : (lay (xR a :: as)).length ≤ mloc k2) (hc : (mcls k2 : Int) = c) : Rn d k pc ls st g h Q = (gK g a = c ∧ Cl d k2 (xR a :: as) g h (fun r g1 h1 => Rn d k nx ls (r.toList ++ rest) g1 h1 Q)) := by
  subst hr; subst hc
  have hcl : calls k (.invokespecial i) st g = if gK g a = (mcls k2 : Int) then some (k2, xR a :: as, st.drop n) else none := by
    simp only [calls, cal, hm]
    rw [ha, if_pos ⟨trivial, hn, hw, hy⟩, if_neg (by decide)]
  by_cases q : gK g a = (mcls k2 : Int)
  · rw [Rn_call (k2 := k2) (as := xR a :: as) (rest := st.drop n) hf rfl (by rw [hcl, if_pos q])]; simp [q]
  · rw [Rn_stuck hf rfl (by rw [hcl, if_neg q]) (by simp only [stp, hi])]; simp [q]
/-- the entry of a method -/
theorem R_in {as ls0 : List KV} (hl : mkl as (mloc k) = ls0) : Cl (d + 1) k as g h Q = Rn d k 0 ls0 [] g h Q := by
  subst hl
  apply propext
  constructor
  · rintro ⟨e, he, hr⟩
    cases he
    exact hr
  · intro hr
    exact ⟨d, rfl, hr⟩
end RUNNING
theorem gd {A B C G : Prop} (h1 : A = (G ∧ B)) (h2 : B = C) : A = (G ∧ C) := by rw [h1, h2]
theorem brn {A B B1 C C1 c : Prop} [Decidable c] (h1 : A = if c then B else C) (h2 : B = B1) (h3 : C = C1) : A = if c then B1 else C1 := by rw [h1, h2, h3]
