/-! THE TEXT OF RULES: what it says, or the first fault -/
abbrev PR : Type := (St) × (Int) × (Int)
def PR.A (A : PR) : St := A.1
def PR.ln (A : PR) : Int := A.2.1
def PR.ts (A : PR) : Int := A.2.2
def PR.mk_ (A_ : St) (ln_ : Int) (ts_ : Int) : PR := (A_, ln_, ts_)
abbrev RRz : Type := Sum (PR × Nat) (Int × Int)
def dlt (o : Int) : Int := if 3 < o then 1 else if o = 3 then 0 else -1
def PR.emit (C : PR) (o v : Int) : PR := PR.mk_ (St.mk_ C.A.nq C.A.nd C.A.ns C.A.nr C.A.wk C.A.ca C.A.cm C.A.ch C.A.gb C.A.wt C.A.dx C.A.dy C.A.ask C.A.dr C.A.fr C.A.tt C.A.pa C.A.cd C.A.tr C.A.hf C.A.rs (fun k => if k = C.ln then o else C.A.op k) (fun k => if k = C.ln then v else C.A.nm k) (fun r k => if r = C.A.nr ∧ k = C.ln + 1 then C.A.dp r C.ln + dlt o else C.A.dp r k)) (C.ln + 1) C.ts
def PR.test (C : PR) : PR := PR.mk_ C.A C.ln (C.ts + 1)
def PR.end_ (C : PR) : PR := PR.mk_ (St.mk_ C.A.nq C.A.nd C.A.ns (C.A.nr + 1) C.A.wk C.A.ca C.A.cm C.A.ch C.A.gb C.A.wt C.A.dx C.A.dy C.A.ask C.A.dr C.A.fr C.A.tt C.A.pa C.A.cd C.A.tr C.A.hf (fun r => if r = C.A.nr + 1 then C.ln else C.A.rs r) C.A.op C.A.nm C.A.dp) C.ln C.ts
def PR.empty : PR := PR.mk_ PL.empty.A 0 0
def PR.dpc (C : PR) : Int := C.A.dp C.A.nr C.ln
def hiR (o : Int) : Int := if o = 8 then 16 else if o = 9 then 2 else 9999
def sTermR (t : Int → Int) (n : Nat) (F : PR → Nat → RRz) : Nat → PR → Nat → RRz
  | 0, C, p => .inl (C, p)
  | k + 1, C, p => if kyr (wdv t n p) = 2 then (match F C (nxt t n p) with
    | .inr f => .inr f
    | .inl (C2, p2) => sTermR t n F k (C2.emit 2 0) p2) else .inl (C, p)
def sTerm (t : Int → Int) (n : Nat) (F : PR → Nat → RRz) (C : PR) (p : Nat) : RRz := match F C p with
  | .inr f => .inr f
  | .inl (C2, p2) => sTermR t n F 301 C2 p2
def sTermsR (t : Int → Int) (n : Nat) (F : PR → Nat → RRz) : Nat → PR → Nat → RRz
  | 0, C, p => .inl (C, p)
  | k + 1, C, p => if kyr (wdv t n p) = 1 then (match sTerm t n F C (nxt t n p) with
    | .inr f => .inr f
    | .inl (C2, p2) => sTermsR t n F k (C2.emit 1 0) p2) else .inl (C, p)
def sTerms (t : Int → Int) (n : Nat) (F : PR → Nat → RRz) (C : PR) (p : Nat) : RRz := match sTerm t n F C p with
  | .inr f => .inr f
  | .inl (C2, p2) => sTermsR t n F 301 C2 p2
def sTest (t : Int → Int) (n : Nat) : Nat → PR → Nat → RRz
  | 0, _, p => if ¬ sgnD t n p 40 ∧ kyr (wdv t n p) < 3 then .inr (flt t n p 2, p) else .inr (flt t n p 5, p)
  | lv + 1, C, p => if kyr (wdv t n p) = 3 then (match sTest t n lv C (nxt t n p) with
      | .inr f => .inr f
      | .inl (C2, p2) => .inl (C2.emit 3 0, p2))
    else if sgnD t n p 40 then (match sTerms t n (sTest t n lv) C (nxt t n p) with
      | .inr f => .inr f
      | .inl (C2, p2) => if sgnD t n p2 41 then .inl (C2, nxt t n p2) else .inr (flt t n p2 2, p2))
    else if kyr (wdv t n p) < 3 then .inr (flt t n p 2, p)
    else if 40 ≤ C.ts then .inr (flt t n p 6, p)
    else if kyr (wdv t n p) = 10 then .inl (C.test.emit 10 0, nxt t n p)
    else if kd t n (nxt t n p) ≠ 2 then .inr (flt t n (nxt t n p) 2, nxt t n p)
    else if ¬ (0 ≤ nmv t n (nxt t n p) ∧ nmv t n (nxt t n p) ≤ hiR (kyr (wdv t n p))) then .inr (flt t n (nxt t n p) 4, nxt t n p)
    else .inl (C.test.emit (kyr (wdv t n p)) (nmv t n (nxt t n p)), nxt t n (nxt t n p))
def sRules (t : Int → Int) (n : Nat) : Nat → PR → Nat → Sum PR (Int × Int)
  | 0, C, _ => .inl C
  | k + 1, C, p => if kd t n p = 0 then .inl C else if kyr (wdv t n p) ≠ 0 then .inr (flt t n p 2, p) else if 4 ≤ C.A.nr then .inr (flt t n p 6, p) else match sTerms t n (sTest t n 8) C (nxt t n p) with
    | .inr f => .inr f
    | .inl (C2, p2) => if sgnD t n p2 59 then sRules t n k C2.end_ (nxt t n p2) else .inr (flt t n p2 2, p2)
theorem kyr_r (w : Int) : -1 ≤ kyr w ∧ kyr w ≤ 10 := by
  unfold kyr
  repeat' split
  all_goals omega
theorem kyr_0 (w : Int) : (kyr w = 0) = (w = 1718378855) := by
  unfold kyr
  apply propext
  constructor
  · intro z
    by_cases e : w = 1718378855
    · exact e
    · rw [if_neg e] at z
      repeat' split at z
      all_goals omega
  · intro z
    rw [if_pos z]
theorem kyr_1 (w : Int) : (kyr w = 1) = (w = 28530) := by
  unfold kyr
  apply propext
  constructor
  · intro z
    by_cases e : w = 28530
    · exact e
    · rw [if_neg e] at z
      repeat' split at z
      all_goals omega
  · intro z
    rw [z]; decide
theorem kyr_2 (w : Int) : (kyr w = 2) = (w = 6385252) := by
  unfold kyr
  apply propext
  constructor
  · intro z
    by_cases e : w = 6385252
    · exact e
    · rw [if_neg e] at z
      repeat' split at z
      all_goals omega
  · intro z
    rw [z]; decide
theorem kyr_3 (w : Int) : (kyr w = 3) = (w = 7237492) := by
  unfold kyr
  apply propext
  constructor
  · intro z
    by_cases e : w = 7237492
    · exact e
    · rw [if_neg e] at z
      repeat' split at z
      all_goals omega
  · intro z
    rw [z]; decide
theorem kyr_w {w : Int} (h : 1 ≤ kyr w) : 256 ≤ w := by
  unfold kyr at h
  repeat' split at h
  all_goals omega
theorem wlen {t : Int → Int} {n p : Nat} (h : 256 ≤ wdv t n p) : kd t n p = 1 ∧ p + 2 ≤ nxt t n p := by
  have w0 : wdv t n p ≠ 0 := by omega
  obtain ⟨w1, h8⟩ := wd_n w0
  obtain ⟨ee, pe, en, lt⟩ := wd_1 w1
  have wp := (wd_p w1 h8).2
  have s := skp_r t (n := n) (p := ed t n p) (by omega)
  refine ⟨w1, ?_⟩
  unfold nxt
  by_cases c : 2 ≤ rnt ltr t n p - p
  · omega
  · exfalso
    have e : rnt ltr t n p - p = 1 := by omega
    have l0 := lt 0 (by omega)
    rw [e] at wp
    unfold pkw pkw at wp
    omega
def PR.Ok (C : PR) : Prop := (0 ≤ C.ln) ∧ (0 ≤ C.ts ∧ C.ts ≤ 40) ∧ (0 ≤ C.A.nr ∧ C.A.nr ≤ 4) ∧ (C.A.rs 0 = 0) ∧ (∀ r, 0 ≤ r → r < C.A.nr → C.A.rs r ≤ C.A.rs (r + 1)) ∧ (C.A.rs C.A.nr ≤ C.ln) ∧ (∀ k, 0 ≤ k → k < C.ln → 1 ≤ C.A.op k ∧ C.A.op k ≤ 10 ∧ 0 ≤ C.A.nm k ∧ C.A.nm k ≤ 9999) ∧ (∀ r, 0 ≤ r → r < C.A.nr → C.A.dp r (C.A.rs r) = 0 ∧ C.A.dp r (C.A.rs (r + 1)) = 1 ∧ ∀ k, C.A.rs r ≤ k → k < C.A.rs (r + 1) → 0 ≤ C.A.dp r k ∧ C.A.dp r k ≤ 40 ∧ (3 < C.A.op k → C.A.dp r (k + 1) = C.A.dp r k + 1) ∧ (C.A.op k = 3 → 1 ≤ C.A.dp r k ∧ C.A.dp r (k + 1) = C.A.dp r k) ∧ (C.A.op k < 3 → 2 ≤ C.A.dp r k ∧ C.A.dp r (k + 1) = C.A.dp r k - 1)) ∧ (C.A.dp C.A.nr (C.A.rs C.A.nr) = 0) ∧ (∀ k, C.A.rs C.A.nr ≤ k → k < C.ln → 0 ≤ C.A.dp C.A.nr k ∧ C.A.dp C.A.nr k ≤ C.ts ∧ (3 < C.A.op k → C.A.dp C.A.nr (k + 1) = C.A.dp C.A.nr k + 1) ∧ (C.A.op k = 3 → 1 ≤ C.A.dp C.A.nr k ∧ C.A.dp C.A.nr (k + 1) = C.A.dp C.A.nr k) ∧ (C.A.op k < 3 → 2 ≤ C.A.dp C.A.nr k ∧ C.A.dp C.A.nr (k + 1) = C.A.dp C.A.nr k - 1)) ∧ (0 ≤ C.dpc ∧ C.dpc ≤ C.ts) ∧ (∀ r k, C.A.nr < r → C.A.dp r k = 0)
theorem PR.Ok.l0 {C : PR} (z_ : PR.Ok C) : 0 ≤ C.ln := z_.1
theorem PR.Ok.t0 {C : PR} (z_ : PR.Ok C) : 0 ≤ C.ts ∧ C.ts ≤ 40 := z_.2.1
theorem PR.Ok.nr {C : PR} (z_ : PR.Ok C) : 0 ≤ C.A.nr ∧ C.A.nr ≤ 4 := z_.2.2.1
theorem PR.Ok.rs0 {C : PR} (z_ : PR.Ok C) : C.A.rs 0 = 0 := z_.2.2.2.1
theorem PR.Ok.rs {C : PR} (z_ : PR.Ok C) : ∀ r, 0 ≤ r → r < C.A.nr → C.A.rs r ≤ C.A.rs (r + 1) := z_.2.2.2.2.1
theorem PR.Ok.rl {C : PR} (z_ : PR.Ok C) : C.A.rs C.A.nr ≤ C.ln := z_.2.2.2.2.2.1
theorem PR.Ok.op {C : PR} (z_ : PR.Ok C) : ∀ k, 0 ≤ k → k < C.ln → 1 ≤ C.A.op k ∧ C.A.op k ≤ 10 ∧ 0 ≤ C.A.nm k ∧ C.A.nm k ≤ 9999 := z_.2.2.2.2.2.2.1
theorem PR.Ok.dp {C : PR} (z_ : PR.Ok C) : ∀ r, 0 ≤ r → r < C.A.nr → C.A.dp r (C.A.rs r) = 0 ∧ C.A.dp r (C.A.rs (r + 1)) = 1 ∧ ∀ k, C.A.rs r ≤ k → k < C.A.rs (r + 1) → 0 ≤ C.A.dp r k ∧ C.A.dp r k ≤ 40 ∧ (3 < C.A.op k → C.A.dp r (k + 1) = C.A.dp r k + 1) ∧ (C.A.op k = 3 → 1 ≤ C.A.dp r k ∧ C.A.dp r (k + 1) = C.A.dp r k) ∧ (C.A.op k < 3 → 2 ≤ C.A.dp r k ∧ C.A.dp r (k + 1) = C.A.dp r k - 1) := z_.2.2.2.2.2.2.2.1
theorem PR.Ok.d0 {C : PR} (z_ : PR.Ok C) : C.A.dp C.A.nr (C.A.rs C.A.nr) = 0 := z_.2.2.2.2.2.2.2.2.1
theorem PR.Ok.dc {C : PR} (z_ : PR.Ok C) : ∀ k, C.A.rs C.A.nr ≤ k → k < C.ln → 0 ≤ C.A.dp C.A.nr k ∧ C.A.dp C.A.nr k ≤ C.ts ∧ (3 < C.A.op k → C.A.dp C.A.nr (k + 1) = C.A.dp C.A.nr k + 1) ∧ (C.A.op k = 3 → 1 ≤ C.A.dp C.A.nr k ∧ C.A.dp C.A.nr (k + 1) = C.A.dp C.A.nr k) ∧ (C.A.op k < 3 → 2 ≤ C.A.dp C.A.nr k ∧ C.A.dp C.A.nr (k + 1) = C.A.dp C.A.nr k - 1) := z_.2.2.2.2.2.2.2.2.2.1
theorem PR.Ok.dn {C : PR} (z_ : PR.Ok C) : 0 ≤ C.dpc ∧ C.dpc ≤ C.ts := z_.2.2.2.2.2.2.2.2.2.2.1
theorem PR.Ok.df {C : PR} (z_ : PR.Ok C) : ∀ r k, C.A.nr < r → C.A.dp r k = 0 := z_.2.2.2.2.2.2.2.2.2.2.2
theorem PR.empty_ok : PR.empty.Ok := by
  refine ⟨by decide, by decide, by decide, rfl, ?_, by decide, ?_, ?_, rfl, ?_, by decide, fun _ _ _ => rfl⟩
  · intro r r0 r1
    exact absurd r1 (by show ¬ r < 0; omega)
  · intro k k0 k1
    exact absurd k1 (by show ¬ k < 0; omega)
  · intro r r0 r1
    exact absurd r1 (by show ¬ r < 0; omega)
  · intro k k0 k1
    have k0 : (0 : Int) ≤ k := k0
    exact absurd k1 (by show ¬ k < 0; omega)
theorem PR.rs_le {C : PR} (h : C.Ok) : ∀ m r : Nat, (r : Int) + m = C.A.nr → C.A.rs r ≤ C.A.rs C.A.nr := by
  intro m
  induction m with
  | zero =>
    intro r e
    rw [← e, show (r : Int) + (0 : Nat) = r by omega]
    exact Int.le_refl _
  | succ m ih =>
    intro r e
    have a := h.rs r (by omega) (by omega)
    have b := ih (r + 1) (by omega)
    rw [show ((r + 1 : Nat) : Int) = (r : Int) + 1 by omega] at b
    omega
theorem PR.Ok.test {C : PR} (h : C.Ok) (t : C.ts < 40) : C.test.Ok := by
  have t0 := h.t0
  exact ⟨h.l0, by show 0 ≤ C.ts + 1 ∧ C.ts + 1 ≤ 40; omega, h.nr, h.rs0, h.rs, h.rl, h.op, h.dp, h.d0, fun k k0 k1 => by
    obtain ⟨a, b, c⟩ := h.dc k k0 k1
    exact ⟨a, by show _ ≤ C.ts + 1; exact Int.le_trans b (by omega), c⟩, by
    have := h.dn
    show 0 ≤ C.dpc ∧ C.dpc ≤ C.ts + 1
    omega, h.df⟩
theorem PR.emit_dpc (C : PR) (o v : Int) : (C.emit o v).dpc = C.dpc + dlt o := if_pos ⟨rfl, rfl⟩
theorem PR.Ok.emit {C : PR} (h : C.Ok) {o v : Int} (ho : 1 ≤ o ∧ o ≤ 10) (hv : 0 ≤ v ∧ v ≤ 9999) (d1 : 3 < o → C.dpc < C.ts) (d2 : o = 3 → 1 ≤ C.dpc) (d3 : o < 3 → 2 ≤ C.dpc) : (C.emit o v).Ok := by
  have l0 := h.l0
  have rl := h.rl
  have dn := h.dn
  have nr := h.nr
  have eo : ∀ k, k ≠ C.ln → (C.emit o v).A.op k = C.A.op k := fun k e => if_neg e
  have no : (C.emit o v).A.op C.ln = o := if_pos rfl
  have en : ∀ k, k ≠ C.ln → (C.emit o v).A.nm k = C.A.nm k := fun k e => if_neg e
  have nn : (C.emit o v).A.nm C.ln = v := if_pos rfl
  have ed : ∀ r k, (r ≠ C.A.nr ∨ k ≠ C.ln + 1) → (C.emit o v).A.dp r k = C.A.dp r k := fun r k e => if_neg (fun z => by omega)
  have nd : (C.emit o v).A.dp C.A.nr (C.ln + 1) = C.dpc + dlt o := if_pos ⟨rfl, rfl⟩
  have dl := dlt
  have dd : (3 < o → dlt o = 1) ∧ (o = 3 → dlt o = 0) ∧ (o < 3 → dlt o = -1) := by
    unfold dlt
    refine ⟨fun z => if_pos z, fun z => by rw [if_neg (by omega), if_pos z], fun z => by rw [if_neg (by omega), if_neg (by omega)]⟩
  have nrs : ∀ r, (C.emit o v).A.rs r = C.A.rs r := fun _ => rfl
  have nnr : (C.emit o v).A.nr = C.A.nr := rfl
  have nln : (C.emit o v).ln = C.ln + 1 := rfl
  have nts : (C.emit o v).ts = C.ts := rfl
  have lim : ∀ r, 0 ≤ r → r < C.A.nr → C.A.rs (r + 1) ≤ C.ln := by
    intro r r0 r1
    have := PR.rs_le h (C.A.nr - (r + 1)).toNat (r + 1).toNat (by omega)
    rw [show (((r + 1).toNat : Nat) : Int) = r + 1 by omega] at this
    omega
  refine ⟨by rw [nln]; omega, h.t0, h.nr, h.rs0, h.rs, by rw [nnr, nrs, nln]; omega, fun k k0 k1 => ?_, fun r r0 r1 => ?_, ?_, fun k k0 k1 => ?_, ?_, fun r k hr => ?_⟩
  · rw [nln] at k1
    by_cases e : k = C.ln
    · rw [e, no, nn]; omega
    · rw [eo k e, en k e]; exact h.op k k0 (by omega)
  · rw [nnr] at r1
    have l := lim r r0 r1
    obtain ⟨a, b, c⟩ := h.dp r r0 r1
    rw [nrs, nrs, ed _ _ (Or.inl (by omega)), ed _ _ (Or.inl (by omega))]
    refine ⟨a, b, fun k k0 k1 => ?_⟩
    rw [ed _ _ (Or.inl (by omega)), ed _ _ (Or.inl (by omega)), eo k (by omega)]
    exact c k k0 k1
  · rw [nnr, nrs, ed _ _ (Or.inr (by omega))]
    exact h.d0
  · rw [nnr, nrs] at k0
    rw [nln] at k1
    rw [nnr, nts]
    by_cases e : k = C.ln
    · rw [e, nd, no, ed _ _ (Or.inr (by omega))]
      have e2 : C.A.dp C.A.nr C.ln = C.dpc := rfl
      rw [e2]
      omega
    · rw [ed _ _ (Or.inr (by omega)), ed _ _ (Or.inr (by omega)), eo k e]
      exact h.dc k k0 (by omega)
  · rw [PR.emit_dpc, nts]
    have o3 : 3 < o ∨ o = 3 ∨ o < 3 := by omega
    omega
  · rw [ed _ _ (Or.inl (by have hr : C.A.nr < r := hr; omega))]
    exact h.df r k hr
theorem PR.Ok.end_ {C : PR} (h : C.Ok) (d1 : C.dpc = 1) (n4 : C.A.nr < 4) : C.end_.Ok ∧ C.end_.A.rs C.end_.A.nr = C.end_.ln := by
  have nr := h.nr
  have t0 := h.t0
  have nnr : C.end_.A.nr = C.A.nr + 1 := rfl
  have ers : ∀ r, r ≠ C.A.nr + 1 → C.end_.A.rs r = C.A.rs r := fun r e => if_neg e
  have nrs : C.end_.A.rs (C.A.nr + 1) = C.ln := if_pos rfl
  have nln : C.end_.ln = C.ln := rfl
  have nop : C.end_.A.op = C.A.op := rfl
  have ndp : C.end_.A.dp = C.A.dp := rfl
  refine ⟨⟨h.l0, h.t0, by rw [nnr]; omega, by rw [ers 0 (by omega)]; exact h.rs0, fun r r0 r1 => ?_, by rw [nnr, nrs, nln]; exact Int.le_refl _, h.op, fun r r0 r1 => ?_, ?_, fun k k0 k1 => ?_, ?_, fun r k hr => ?_⟩, by rw [nnr, nrs, nln]⟩
  · rw [nnr] at r1
    by_cases e : r = C.A.nr
    · rw [e, nrs, ers _ (by omega)]; exact h.rl
    · rw [ers _ (by omega), ers _ (by omega)]; exact h.rs r r0 (by omega)
  · rw [nnr] at r1
    rw [ndp, nop]
    by_cases e : r = C.A.nr
    · rw [e, nrs, ers _ (by omega)]
      refine ⟨h.d0, d1, fun k k0 k1 => ?_⟩
      obtain ⟨a, b, c⟩ := h.dc k k0 k1
      exact ⟨a, by omega, c⟩
    · rw [ers _ (by omega), ers _ (by omega)]; exact h.dp r r0 (by omega)
  · rw [ndp, nnr]; exact h.df _ _ (by omega)
  · rw [nnr, nrs] at k0
    rw [nln] at k1
    omega
  · show 0 ≤ C.A.dp (C.A.nr + 1) C.ln ∧ C.A.dp (C.A.nr + 1) C.ln ≤ C.ts
    rw [h.df _ _ (by omega)]
    omega
  · rw [nnr] at hr
    exact h.df r k (by omega)
/-- what a piece that is read has grown by -/
def GR (n : Nat) (C : PR) (p : Nat) (C2 : PR) (p2 : Nat) : Prop := (C2.Ok) ∧ (C2.dpc = C.dpc + 1) ∧ (p < p2) ∧ (p2 ≤ n) ∧ (2 * C2.ln + p ≤ 2 * C.ln + p2) ∧ (C2.A.nr = C.A.nr)
theorem GR.ok {n : Nat} {C : PR} {p : Nat} {C2 : PR} {p2 : Nat} (z_ : GR n C p C2 p2) : C2.Ok := z_.1
theorem GR.d {n : Nat} {C : PR} {p : Nat} {C2 : PR} {p2 : Nat} (z_ : GR n C p C2 p2) : C2.dpc = C.dpc + 1 := z_.2.1
theorem GR.lt {n : Nat} {C : PR} {p : Nat} {C2 : PR} {p2 : Nat} (z_ : GR n C p C2 p2) : p < p2 := z_.2.2.1
theorem GR.le {n : Nat} {C : PR} {p : Nat} {C2 : PR} {p2 : Nat} (z_ : GR n C p C2 p2) : p2 ≤ n := z_.2.2.2.1
theorem GR.ln {n : Nat} {C : PR} {p : Nat} {C2 : PR} {p2 : Nat} (z_ : GR n C p C2 p2) : 2 * C2.ln + p ≤ 2 * C.ln + p2 := z_.2.2.2.2.1
theorem GR.nr {n : Nat} {C : PR} {p : Nat} {C2 : PR} {p2 : Nat} (z_ : GR n C p C2 p2) : C2.A.nr = C.A.nr := z_.2.2.2.2.2
def GF (n : Nat) (F : PR → Nat → RRz) : Prop := ∀ C p C2 p2, F C p = .inl (C2, p2) → p ≤ n → C.Ok → GR n C p C2 p2
theorem GF.termR {t : Int → Int} {n : Nat} {F : PR → Nat → RRz} (hF : GF n F) {C0 : PR} (c00 : 0 ≤ C0.dpc) : ∀ k p0 C p C2 p2, sTermR t n F k C p = .inl (C2, p2) → GR n C0 p0 C p → GR n C0 p0 C2 p2 := by
  intro k
  induction k with
  | zero =>
    intro p0 C p C2 p2 e g0
    unfold sTermR at e
    have e1 := congrArg Prod.fst (Sum.inl.inj e)
    have e2 := congrArg Prod.snd (Sum.inl.inj e)
    simp only at e1 e2
    rw [← e1, ← e2]; exact g0
  | succ k ih =>
    intro p0 C p C2 p2 e g0
    unfold sTermR at e
    split at e
    · rename_i y
      split at e
      · cases e
      · rename_i C3 p3 ef
        have w := wlen (kyr_w (w := wdv t n p) (by omega))
        have q := nxt_r t (n := n) (p := p) g0.le
        have g := hF _ _ _ _ ef q.2.1 g0.ok
        have c0 := g0.d
        have gd := g.d
        refine ih p0 (C3.emit 2 0) p3 C2 p2 e ⟨g.ok.emit (by decide) (by decide) (fun z => by omega) (fun z => by omega) (fun _ => by omega), ?_, ?_, g.le, ?_, g.nr.trans g0.nr⟩
        · rw [PR.emit_dpc, show dlt 2 = -1 by decide]; omega
        · have := g0.lt; have := g.lt; omega
        · have a := g0.ln
          have b := g.ln
          show 2 * (C3.ln + 1) + _ ≤ _
          omega
    · have e1 := congrArg Prod.fst (Sum.inl.inj e)
      have e2 := congrArg Prod.snd (Sum.inl.inj e)
      simp only at e1 e2
      rw [← e1, ← e2]; exact g0
theorem GF.term {t : Int → Int} {n : Nat} {F : PR → Nat → RRz} (hF : GF n F) : GF n (sTerm t n F) := by
  intro C p C2 p2 e hp h
  unfold sTerm at e
  split at e
  · cases e
  · rename_i C3 p3 ef
    exact hF.termR h.dn.1 _ _ _ _ _ _ e (hF _ _ _ _ ef hp h)
theorem GF.termsR {t : Int → Int} {n : Nat} {F : PR → Nat → RRz} (hF : GF n F) {C0 : PR} (c00 : 0 ≤ C0.dpc) : ∀ k p0 C p C2 p2, sTermsR t n F k C p = .inl (C2, p2) → GR n C0 p0 C p → GR n C0 p0 C2 p2 := by
  intro k
  induction k with
  | zero =>
    intro p0 C p C2 p2 e g0
    unfold sTermsR at e
    have e1 := congrArg Prod.fst (Sum.inl.inj e)
    have e2 := congrArg Prod.snd (Sum.inl.inj e)
    simp only at e1 e2
    rw [← e1, ← e2]; exact g0
  | succ k ih =>
    intro p0 C p C2 p2 e g0
    unfold sTermsR at e
    split at e
    · rename_i y
      split at e
      · cases e
      · rename_i C3 p3 ef
        have w := wlen (kyr_w (w := wdv t n p) (by omega))
        have q := nxt_r t (n := n) (p := p) g0.le
        have g := hF.term _ _ _ _ ef q.2.1 g0.ok
        have c0 := g0.d
        have gd := g.d
        refine ih p0 (C3.emit 1 0) p3 C2 p2 e ⟨g.ok.emit (by decide) (by decide) (fun z => by omega) (fun z => by omega) (fun _ => by omega), ?_, ?_, g.le, ?_, g.nr.trans g0.nr⟩
        · rw [PR.emit_dpc, show dlt 1 = -1 by decide]; omega
        · have := g0.lt; have := g.lt; omega
        · have a := g0.ln
          have b := g.ln
          show 2 * (C3.ln + 1) + _ ≤ _
          omega
    · have e1 := congrArg Prod.fst (Sum.inl.inj e)
      have e2 := congrArg Prod.snd (Sum.inl.inj e)
      simp only at e1 e2
      rw [← e1, ← e2]; exact g0
theorem GF.terms {t : Int → Int} {n : Nat} {F : PR → Nat → RRz} (hF : GF n F) : GF n (sTerms t n F) := by
  intro C p C2 p2 e hp h
  unfold sTerms at e
  split at e
  · cases e
  · rename_i C3 p3 ef
    exact hF.termsR h.dn.1 _ _ _ _ _ _ e (hF.term _ _ _ _ ef hp h)
theorem hiR_r (o : Int) : hiR o ≤ 9999 := by
  unfold hiR
  repeat' split
  all_goals omega
theorem GF.test {t : Int → Int} {n : Nat} : ∀ lv, GF n (sTest t n lv) := by
  intro lv
  induction lv with
  | zero =>
    intro C p C2 p2 e hp h
    unfold sTest at e
    split at e <;> cases e
  | succ lv ih =>
    intro C p C2 p2 e hp h
    have q := nxt_r t (n := n) hp
    have kr := kyr_r (wdv t n p)
    unfold sTest at e
    split at e
    · rename_i y
      split at e
      · cases e
      · rename_i C3 p3 ef
        have w := wlen (kyr_w (w := wdv t n p) (by omega))
        have g := ih _ _ _ _ ef q.2.1 h
        have e1 := congrArg Prod.fst (Sum.inl.inj e)
        have e2 := congrArg Prod.snd (Sum.inl.inj e)
        simp only at e1 e2
        subst e1 e2
        have gd := g.d
        have dn := h.dn
        refine ⟨g.ok.emit (by decide) (by decide) (fun z => by omega) (fun z => by omega) (fun z => by omega), ?_, ?_, g.le, ?_, g.nr⟩
        · rw [PR.emit_dpc, show dlt 3 = 0 by decide]; omega
        · have := g.lt; omega
        · have b := g.ln
          show 2 * (C3.ln + 1) + _ ≤ _
          omega
    · split at e
      · rename_i y0 y
        split at e
        · cases e
        · rename_i C3 p3 ef
          split at e
          · rename_i y2
            have g := ih.terms _ _ _ _ ef q.2.1 h
            have e1 := congrArg Prod.fst (Sum.inl.inj e)
            have e2 := congrArg Prod.snd (Sum.inl.inj e)
            simp only at e1 e2
            subst e1 e2
            have q2 := nxt_r t (n := n) g.le
            have z := q2.2.2 (by have := y2.1; omega)
            exact ⟨g.ok, g.d, by have := g.lt; omega, q2.2.1, by have := g.ln; omega, g.nr⟩
          · cases e
      · split at e
        · cases e
        · split at e
          · cases e
          · rename_i k3 t4
            have w := wlen (kyr_w (w := wdv t n p) (by omega))
            have ok := h.test (by omega)
            have dn := h.dn
            have ed : C.test.dpc = C.dpc := rfl
            have et : C.test.ts = C.ts + 1 := rfl
            have el : C.test.ln = C.ln := rfl
            split at e
            · have e1 := congrArg Prod.fst (Sum.inl.inj e)
              have e2 := congrArg Prod.snd (Sum.inl.inj e)
              simp only at e1 e2
              subst e1 e2
              refine ⟨ok.emit (by decide) (by decide) (fun _ => by omega) (fun z => by omega) (fun z => by omega), ?_, by omega, q.2.1, ?_, rfl⟩
              · rw [PR.emit_dpc, show dlt 10 = 1 by decide]; omega
              · show 2 * (C.ln + 1) + _ ≤ _
                omega
            · split at e
              · cases e
              · split at e
                · cases e
                · rename_i c1 c2 c3
                  have q2 := nxt_r t (n := n) q.2.1
                  have z := q2.2.2 (by omega)
                  have hh := hiR_r (kyr (wdv t n p))
                  have e1 := congrArg Prod.fst (Sum.inl.inj e)
                  have e2 := congrArg Prod.snd (Sum.inl.inj e)
                  simp only at e1 e2
                  subst e1 e2
                  refine ⟨ok.emit (by omega) (by omega) (fun _ => by omega) (fun z => by omega) (fun z => by omega), ?_, by omega, q2.2.1, ?_, rfl⟩
                  · rw [PR.emit_dpc, show dlt (kyr (wdv t n p)) = 1 by unfold dlt; exact if_pos (by omega)]; omega
                  · show 2 * (C.ln + 1) + _ ≤ _
                    omega
/-- what holds between two rules -/
def PR.Ok2 (C : PR) (p : Nat) : Prop := (C.Ok) ∧ (C.A.rs C.A.nr = C.ln) ∧ (2 * C.ln ≤ p)
theorem PR.Ok2.ok {C : PR} {p : Nat} (z_ : PR.Ok2 C p) : C.Ok := z_.1
theorem PR.Ok2.e {C : PR} {p : Nat} (z_ : PR.Ok2 C p) : C.A.rs C.A.nr = C.ln := z_.2.1
theorem PR.Ok2.l {C : PR} {p : Nat} (z_ : PR.Ok2 C p) : 2 * C.ln ≤ p := z_.2.2
theorem PR.Ok2.d {C : PR} {p : Nat} (h : C.Ok2 p) : C.dpc = 0 := by
  have d := h.ok.d0
  rw [h.e] at d
  exact d
theorem sRules_i {t : Int → Int} {n : Nat} : ∀ (k : Nat) (C : PR) (p : Nat), C.Ok2 p → p ≤ n → ∀ C2, sRules t n k C p = .inl C2 → ∃ p2, C2.Ok2 p2 ∧ p2 ≤ n := by
  intro k
  induction k with
  | zero =>
    intro C p h hp C2 e
    unfold sRules at e
    rw [← Sum.inl.inj e]
    exact ⟨p, h, hp⟩
  | succ k ih =>
    intro C p h hp C2 e
    unfold sRules at e
    split at e
    · rw [← Sum.inl.inj e]
      exact ⟨p, h, hp⟩
    · split at e
      · cases e
      · split at e
        · cases e
        · rename_i z1 z2 z3
          split at e
          · cases e
          · rename_i C3 p3 ef
            split at e
            · rename_i y
              have q := nxt_r t (n := n) hp
              have g := (GF.test (t := t) 8).terms _ _ _ _ ef q.2.1 h.ok
              have q2 := nxt_r t (n := n) g.le
              have gd := g.d
              have hd := h.d
              have nr := h.ok.nr
              have gn := g.nr
              have en := g.ok.end_ (by omega) (by omega)
              refine ih C3.end_ _ ⟨en.1, en.2, ?_⟩ q2.2.1 C2 e
              have a := g.ln
              have b := h.l
              show 2 * C3.ln ≤ _
              omega
            · cases e
def rulesR (W : Wd) (n : Int) : Sum PR (Int × Int) := sRules W.tp n.toNat 301 PR.empty (skp W.tp n.toNat 0)
/-- the land and the sheets of B with the rules of A -/
def St.rls (A B : St) : St := St.mk_ B.nq B.nd B.ns A.nr B.wk B.ca B.cm B.ch B.gb B.wt B.dx B.dy B.ask B.dr B.fr B.tt B.pa B.cd B.tr B.hf A.rs A.op A.nm A.dp
def Wd.rules (W : Wd) (n : Int) : Wd × Int := if 0 ≤ n ∧ n ≤ W.fed ∧ n ≤ 300 then (match rulesR W n with
  | .inr (k, pl) => (W.rd W.cur 9 k pl, -1)
  | .inl C => (W.rd (C.A.rls W.cur) 0 0 (-1), C.A.nr)) else (W.st 1, -1)
theorem PR.Ok2.rls {C : PR} {B : St} {p : Nat} (h : C.Ok2 p) (hp : p ≤ 300) (O : B.Ok) : (C.A.rls B).Ok := by
  have e := h.e
  have l := h.l
  have l0 := h.ok.l0
  exact ⟨O.nq, O.nd, O.ns, h.ok.nr, O.wk, O.ca, O.cm, O.ch, O.gb, O.wt, O.ws, O.dx, O.dy, O.ask, O.dr, O.fr, O.tt, O.pa, O.cd, O.tr, O.hf, h.ok.rs0, h.ok.rs, by show C.A.rs C.A.nr ≤ 200; omega, fun k k0 k1 => h.ok.op k k0 (by have k1 : k < C.A.rs C.A.nr := k1; omega), h.ok.dp⟩
