/-! in how many answers two rows differ -/
def dif (p r : Int) : Nat → Int
  | 0 => 0
  | n + 1 => dif p r n + (if dg p n = dg r n then 0 else 1)
theorem dif_r (p r : Int) : ∀ n : Nat, 0 ≤ dif p r n ∧ dif p r n ≤ n := by
  intro n
  induction n with
  | zero => exact ⟨Int.le_refl _, Int.le_refl _⟩
  | succ n ih =>
    unfold dif
    split <;> omega
theorem dif_0 (p r : Int) : ∀ n : Nat, dif p r n = 0 ↔ ∀ k : Nat, k < n → dg p k = dg r k := by
  intro n
  induction n with
  | zero => exact ⟨fun _ k hk => absurd hk (by omega), fun _ => rfl⟩
  | succ n ih =>
    have b := dif_r p r n
    unfold dif
    by_cases h : dg p n = dg r n
    · rw [if_pos h, Int.add_zero, ih]
      refine ⟨fun z k hk => ?_, fun z k hk => z k (by omega)⟩
      by_cases e : k = n
      · rw [e]; exact h
      · exact z k (by omega)
    · rw [if_neg h]
      exact ⟨fun z => by omega, fun z => absurd (z n (by omega)) h⟩
theorem St.row_dif {A : St} (O : A.Ok) {p r : Int} (hp : A.row p) (hr : A.row r) : dif p r A.nq.toNat = 0 ↔ p = r := by
  have h6 := O.nq
  rw [dif_0]
  refine ⟨fun z => row_eq hp.1 hp.2.1 hr.1 hr.2.1 (fun q q0 q1 => ?_), fun z k _ => by rw [z]⟩
  by_cases hq : q < A.nq
  · have := z q.toNat (by omega)
    rw [show ((q.toNat : Nat) : Int) = q by omega] at this
    exact this
  · rw [hp.2.2.2 q (by omega) q1, hr.2.2.2 q (by omega) q1]
theorem S229 {g : KG} {h : KH} {A : St} (K : MK g h) (M : MS (h 139) A) (O : A.Ok) {s o : Int} (hs : ins A s) (ho : ins A o) {d : Nat} {Q : Option KV → KG → KH → Prop} (hQ : Q (some (xI (dif (A.pa s) (A.pa o) A.nq.toNat))) g h) : Cl (d + 2) 229 [xR 138, xI s, xI o] g h Q := by
  have hn := O.nq
  have h16 := O.ns
  have s0 := hs.1
  have s1 := hs.2
  have o0 := ho.1
  have o1_ := ho.2
  have g2 : gK g 139 = 20 ∧ 0 ≤ (0 : Int) ∧ (0 : Int) < gL g 139 := ⟨K.kat, by decide, by rw [K.lat]; decide⟩
  have lp : ∀ n k : Nat, k + n = A.nq.toNat → Rn (d + 1) 229 5 [xR 138, xI s, xI o, xI (dif (A.pa s) (A.pa o) k), xI (k : Int)] [] g h Q := by
    intro n
    induction n with
    | zero =>
      intro k hk
      have hk : k = A.nq.toNat := by omega
      rw [B229_5, ga K.k0, K.pat, ga g2, M.nq, if_pos (by omega), hk]
      exact hQ
    | succ n ih =>
      intro k hk
      have hq : inq A k := ⟨by omega, by omega⟩
      have b := dif_r (A.pa s) (A.pa o) k
      have ih := ih (k + 1) (by omega)
      have e1 : ((k : Int) + 1) = ((k + 1 : Nat) : Int) := by omega
      have es : h 139 (250 + 13 * s + (7 + (k : Int))) = dg (A.pa s) k := by rw [← M.pa s k hs hq]; congr 1; omega
      have eo : h 139 (250 + 13 * o + (7 + (k : Int))) = dg (A.pa o) k := by rw [← M.pa o k ho hq]; congr 1; omega
      unfold dif at ih
      rw [B229_5, ga K.k0, K.pat, ga g2, M.nq, if_neg (by omega), ga K.k0, w32_id (by omega) (by omega), S205 K ⟨by omega, by omega⟩ ⟨by omega, by omega⟩, es]
      simp only [o1, o0, List.cons_append, List.nil_append]
      rw [B229_27, ga K.k0, w32_id (by omega) (by omega), S205 K ⟨by omega, by omega⟩ ⟨by omega, by omega⟩, eo]
      simp only [o1, o0, List.cons_append, List.nil_append]
      rw [B229_37]
      by_cases hd : dg (A.pa s) k = dg (A.pa o) k
      · rw [if_pos hd] at ih ⊢
        rw [B229_45, w32_id (by omega) (by omega), w32_id (by omega) (by omega), e1]
        exact ih
      · rw [if_neg hd] at ih ⊢
        rw [B229_45, w32_id (by omega) (by omega), w32_id (by omega) (by omega), e1]
        exact ih
  rw [E229]
  exact lp A.nq.toNat 0 (by omega)
/-! the class: is a sheet's row there before it with its asker -/
def St.rep (A : St) (s : Int) (n : Nat) : Bool := (List.range n).any (fun i => decide (A.ask i = A.ask s ∧ A.pa i = A.pa s))
theorem St.rep_s (A : St) (s : Int) (n : Nat) : A.rep s (n + 1) = (A.rep s n || decide (A.ask n = A.ask s ∧ A.pa n = A.pa s)) := by
  unfold St.rep
  rw [List.range_succ, List.any_append]
  simp
theorem S54 {g : KG} {h : KH} {l r : Int} {A : St} (S : SR g h 6 l r A) (O : A.Ok) {s : Int} (hs : ins A s) {d : Nat} {Q : Option KV → KG → KH → Prop} (hQ : Q (some (xI (bz (A.rep s s.toNat = true)))) g h) : Cl (d + 1) 54 [xR 6, xI s] g h Q := by
  have h16 := O.ns
  have s0 := hs.1
  have s1 := hs.2
  have up : ∀ m k : Nat, k ≤ m → A.rep s k = true → A.rep s m = true := by
    intro m k hk hr
    unfold St.rep at hr ⊢
    rw [List.any_eq_true] at hr ⊢
    obtain ⟨x, hx, hp⟩ := hr
    exact ⟨x, List.mem_range.mpr (Nat.lt_of_lt_of_le (List.mem_range.mp hx) hk), hp⟩
  have lp : ∀ n k : Nat, k + n = s.toNat → A.rep s k = false → Rn d 54 2 [xR 6, xI s, xI (k : Int)] [] g h Q := by
    intro n
    induction n with
    | zero =>
      intro k hk hr
      have hk : k = s.toNat := by omega
      rw [B54_2, if_pos (by omega), g01]
      rw [← hk, hr] at hQ
      exact hQ
    | succ n ih =>
      intro k hk hr
      have hi : ins A k := ⟨by omega, by omega⟩
      have e1 : ((k : Int) + 1) = ((k + 1 : Nat) : Int) := by omega
      have hx := A.rep_s s k
      rw [hr, Bool.false_or] at hx
      rw [B54_2, if_neg (by omega)]
      simp (disch := omega) only [S.k0, S.n3, S.m23, S.w23, S.n7, S.m27, S.w27, S.v23 k hi, S.v23 s hs, S.v27 k hi, S.v27 s hs, true_and, ga, ne_eq, g11]
      by_cases ha : A.ask k = A.ask s
      · rw [if_neg (fun z => z ha)]
        by_cases hp : A.pa k = A.pa s
        · rw [if_neg (fun z => z hp)]
          rw [decide_eq_true ⟨ha, hp⟩] at hx
          rw [bzt (up s.toNat (k + 1) (by omega) hx)] at hQ
          exact hQ
        · rw [decide_eq_false (fun z => hp z.2)] at hx
          rw [if_pos hp, B54_39, w32_id (by omega) (by omega), e1]
          exact ih (k + 1) (by omega) hx
      · rw [decide_eq_false (fun z => ha z.1)] at hx
        rw [if_pos ha, B54_39, w32_id (by omega) (by omega), e1]
        exact ih (k + 1) (by omega) hx
  rw [E54]
  exact lp s.toNat 0 (by omega) rfl
