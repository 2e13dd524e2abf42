/-! sheet -/
abbrev good (A : St) (v : Int → Int) : Prop := (0 ≤ v 0 ∧ v 0 ≤ 3) ∧ (0 ≤ v 1 ∧ v 1 < A.nd) ∧ (0 ≤ v 2 ∧ v 2 ≤ 1439) ∧ (v 2 + 1 ≤ v 3 ∧ v 3 ≤ 1439)
/-- the answers up to a question -/
def St.gqb (A : St) (v : Int → Int) : Nat → Bool
  | 0 => decide (good A v)
  | n + 1 => A.gqb v n && decide (0 ≤ v (4 + n) ∧ v (4 + n) < A.ch n)
abbrev St.gq (A : St) (v : Int → Int) (n : Nat) : Prop := A.gqb v n = true
theorem gq_z {A : St} {v : Int → Int} : A.gq v 0 ↔ good A v := decide_eq_true_iff
theorem gq_s {A : St} {v : Int → Int} {n : Nat} : A.gq v (n + 1) ↔ A.gq v n ∧ 0 ≤ v (4 + n) ∧ v (4 + n) < A.ch n := by
  show (A.gqb v n && decide (0 ≤ v (4 + n) ∧ v (4 + n) < A.ch n)) = true ↔ _
  rw [Bool.and_eq_true, decide_eq_true_iff]
theorem gq_up {A : St} {v : Int → Int} {n : Nat} : ∀ m, A.gq v (n + m) → A.gq v n := by
  intro m
  induction m with
  | zero => exact id
  | succ m ih => intro h; exact ih (gq_s.mp h).1
theorem gq_q {A : St} {v : Int → Int} {n : Nat} (h : A.gq v n) {j : Nat} (hj : j < n) : 0 ≤ v (4 + j) ∧ v (4 + j) < A.ch j := by
  have z := gq_up (n := j + 1) (n - (j + 1)) (by rw [show j + 1 + (n - (j + 1)) = n by omega]; exact h)
  exact (gq_s.mp z).2
theorem gq_0 {A : St} {v : Int → Int} {n : Nat} (h : A.gq v n) : good A v := gq_z.mp (gq_up (n := 0) n (by rw [Nat.zero_add]; exact h))
/-- the row of a tray's answers -/
def St.vrow (v : Int → Int) : Nat → Int
  | 0 => 0
  | n + 1 => wa (St.vrow v n) n (v (4 + n))
theorem vrow_r {A : St} (O : A.Ok) {v : Int → Int} : ∀ n : Nat, n ≤ A.nq.toNat → A.gq v n → A.row (St.vrow v n) := by
  have h6 := O.nq
  intro n
  induction n with
  | zero => intro _ _; exact row_0 O
  | succ n ih => intro hn h; exact row_wa O (ih (by omega) (gq_s.mp h).1) ⟨by omega, by omega⟩ (gq_s.mp h).2
theorem vrow_d {A : St} (O : A.Ok) {v : Int → Int} : ∀ n : Nat, n ≤ A.nq.toNat → A.gq v n → ∀ j : Nat, j < n → dg (St.vrow v n) j = v (4 + j) := by
  have h6 := O.nq
  intro n
  induction n with
  | zero => intro _ _ j hj; omega
  | succ n ih =>
    intro hn h j hj
    have h := gq_s.mp h
    have hr := vrow_r O n (by omega) h.1
    have c := O.ch n ⟨by omega, by omega⟩
    have h2 := h.2
    rw [St.vrow]
    by_cases e : j = n
    · rw [e, wa_e hr.1 hr.2.1 (by omega) (by omega) h2.1 (by omega)]
    · rw [wa_n hr.1 hr.2.1 (by omega) (by omega) h2.1 (by omega) (by omega) (by omega) (by omega)]
      exact ih (by omega) h.1 j (by omega)
def St.more (A : St) (v : Int → Int) : St := A.shs (A.ns + 1) (kset A.ask A.ns (v 0)) (kset A.dr A.ns (v 1)) (kset A.fr A.ns (v 2)) (kset A.tt A.ns (v 3)) (kset A.pa A.ns (St.vrow v A.nq.toNat)) (kset A.cd A.ns 0) (kset A.tr A.ns 0) A.hf
theorem kset_c {f : Int → Int} {a v x : Int} (P : Int → Prop) (h1 : x = a → P v) (h2 : x ≠ a → P (f x)) : P (kset f a v x) := by
  unfold kset
  by_cases h : x = a
  · rw [if_pos h]; exact h1 h
  · rw [if_neg h]; exact h2 h
theorem St.Ok.more {A : St} (O : A.Ok) {v : Int → Int} (hn : A.ns < 16) (hv : A.gq v A.nq.toNat) : (A.more v).Ok := by
  have h16 := O.ns
  have g0 := gq_0 hv
  unfold good at g0
  have hi : ∀ i, ins (A.more v) i → i ≠ A.ns → ins A i := fun i hi hne => by
    have h1 : 0 ≤ i := hi.1
    have h2 : i < A.ns + 1 := hi.2
    exact ⟨h1, by omega⟩
  refine ⟨O.nq, O.nd, ⟨by show 0 ≤ A.ns + 1; omega, by show A.ns + 1 ≤ 16; omega⟩, O.nr, O.wk, O.ca, O.cm, O.ch, O.gb, O.wt, O.ws, O.dx, O.dy, fun i h => ?_, fun i h => ?_, fun i h => ?_, fun i h => ?_, fun i h => ?_, fun i h => ?_, fun i h => ?_, fun i h h3 => ?_, O.rs0, O.rs, O.rsm, O.op, O.dp⟩
  · exact kset_c (fun x => 0 ≤ x ∧ x ≤ 3) (fun _ => g0.1) (fun e => O.ask i (hi i h e))
  · exact kset_c (fun x => 0 ≤ x ∧ x < A.nd) (fun _ => g0.2.1) (fun e => O.dr i (hi i h e))
  · show 0 ≤ kset A.fr A.ns (v 2) i ∧ kset A.fr A.ns (v 2) i < kset A.tt A.ns (v 3) i
    unfold kset
    by_cases e : i = A.ns
    · rw [if_pos e, if_pos e]; omega
    · rw [if_neg e, if_neg e]; exact O.fr i (hi i h e)
  · exact kset_c (fun x => x ≤ 1439) (fun _ => g0.2.2.2.2) (fun e => O.tt i (hi i h e))
  · exact kset_c (fun x => A.row x) (fun _ => vrow_r O _ (Nat.le_refl _) hv) (fun e => O.pa i (hi i h e))
  · exact kset_c (fun x => 0 ≤ x ∧ x ≤ 2) (fun _ => by decide) (fun e => O.cd i (hi i h e))
  · exact kset_c (fun x => 0 ≤ x ∧ x ≤ 3) (fun _ => by decide) (fun e => O.tr i (hi i h e))
  · have h3 : kset A.tr A.ns 0 i = 3 := h3
    unfold kset at h3
    by_cases e : i = A.ns
    · rw [if_pos e] at h3; exact absurd h3 (by decide)
    · rw [if_neg e] at h3; exact O.hf i (hi i h e) h3
def Wd.sheet (W : Wd) (t : Int) : Wd × Int := if 0 ≤ t ∧ t ≤ 3 then (if W.tm t = -1 then (W.st 2, -1) else if 4 + W.cur.nq ≤ W.tm t then (if W.cur.gq (W.tv t) W.cur.nq.toNat then (if W.cur.ns < 16 then (W.cu (W.cur.more (W.tv t)) 0, W.cur.ns) else (W.st 4, -1)) else (W.st 5, -1)) else (W.st 3, -1)) else (W.st 1, -1)
