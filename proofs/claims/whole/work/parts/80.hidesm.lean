/-! hides, on the model's side -/
def St.setp (A : St) (s p : Int) : St := A.shs A.ns A.ask A.dr A.fr A.tt (kset A.pa s p) A.cd A.tr A.hf
theorem St.Ok.setp {A : St} (O : A.Ok) {s p : Int} (hp : A.row p) : (A.setp s p).Ok := by
  refine ⟨O.nq, O.nd, O.ns, O.nr, O.wk, O.ca, O.cm, O.ch, O.gb, O.wt, O.ws, O.dx, O.dy, O.ask, O.dr, O.fr, O.tt, fun i hi => ?_, O.cd, O.tr, O.hf, O.rs0, O.rs, O.rsm, O.op, O.dp⟩
  exact kset_c (fun x => A.row x) (fun _ => hp) (fun _ => O.pa i hi)
theorem prd_setp (A : St) (s p mf r : Int) : ∀ n : Nat, (A.setp s p).prd mf r n = A.prd mf r n := by
  intro n
  induction n with
  | zero => rfl
  | succ n ih => rw [St.prd, St.prd, ih]; rfl
theorem prod_setp (A : St) (s p mf r : Int) : (A.setp s p).prod mf r = A.prod mf r := prd_setp A s p mf r _
theorem sc_setp (A : St) (s p : Int) : ∀ n : Nat, (A.setp s p).sc s p n = A.sc s p n := by
  intro n
  induction n with
  | zero => rfl
  | succ n ih =>
    rw [St.sc, St.sc, ih]
    congr 1
    refine bzc ⟨fun z => ⟨z.1, z.2.1, ?_⟩, fun z => ⟨z.1, z.2.1, ?_⟩⟩
    · have e : kset A.pa s p n = p := z.2.2
      unfold kset at e
      rw [if_neg z.1] at e; exact e
    · show kset A.pa s p n = p
      unfold kset
      rw [if_neg z.1]; exact z.2.2
theorem say_setp (A : St) (s p op nm : Int) : (A.setp s p).say s p op nm = A.say s p op nm := by
  have e1 := sc_setp A s p A.ns.toNat
  have e2 := prod_setp A s p A.nq p
  have e3 : (A.setp s p).mside s p 8 = A.mside s p 8 := by
    unfold St.mside
    rw [prod_setp]; rfl
  have e4 : (A.setp s p).aside s p 8 = A.aside s p 8 := by
    unfold St.aside
    have := prod_setp A s p A.nq p
    show (16 - 8) * (A.setp s p).prod A.nq p * _ = _
    rw [this]; rfl
  unfold St.say
  rw [e3, e4]
  show (if op = 4 then decide (nm ≤ (A.setp s p).sc s p A.ns.toNat) else if op = 5 then decide (A.tt s - A.fr s < nm) else if op = 6 then decide (nm < A.tt s) else if op = 7 then decide ((A.setp s p).prod A.nq p < nm) else if op = 8 then _ else if op = 9 then decide (A.cd s = nm) else A.amb s A.ns.toNat) = _
  rw [e1, e2]
theorem evl_setp (A : St) (s p r0 : Int) : ∀ n : Nat, (A.setp s p).evl s p r0 n = A.evl s p r0 n := by
  intro n
  induction n with
  | zero => rfl
  | succ n ih => rw [St.evl, St.evl, ih, say_setp]; rfl
theorem flg_setp (A : St) (s p u : Int) : (A.setp s p).flg s p u = A.flg s p u := by
  unfold St.flg
  rw [show (A.setp s p).evl s p ((A.setp s p).rs u) = (A.setp s p).evl s p (A.rs u) from rfl, evl_setp]
  rfl
theorem flg_ind {A : St} {s p r u : Int} (hg : ¬ A.gby u = true) : A.flg s p u = A.flg s r u := by
  have up : ∀ m k : Nat, A.gbn (A.rs u) k = true → A.gbn (A.rs u) (k + m) = true := by
    intro m
    induction m with
    | zero => intro k h; exact h
    | succ m ih => intro k h; rw [← Nat.add_assoc, St.gbn, ih k h]; rfl
  have lp : ∀ n : Nat, n ≤ (A.rs (u + 1) - A.rs u).toNat → A.evl s p (A.rs u) n = A.evl s r (A.rs u) n := by
    intro n
    induction n with
    | zero => intro _; rfl
    | succ n ih =>
      intro hn
      rw [St.evl, St.evl, ih (by omega)]
      have e : ¬ (A.op (A.rs u + n) = 4 ∨ A.op (A.rs u + n) = 7 ∨ A.op (A.rs u + n) = 8) := by
        intro z
        apply hg
        unfold St.gby
        have f := up ((A.rs (u + 1) - A.rs u).toNat - (n + 1)) (n + 1) (by rw [St.gbn, decide_eq_true z, Bool.or_true])
        rw [show n + 1 + ((A.rs (u + 1) - A.rs u).toNat - (n + 1)) = (A.rs (u + 1) - A.rs u).toNat by omega] at f
        exact f
      congr 1
      unfold St.say
      rw [if_neg (fun z => e (Or.inl z)), if_neg (fun z => e (Or.inl z))]
      split
      · rfl
      · split
        · rfl
        · rw [if_neg (fun z => e (Or.inr (Or.inl z))), if_neg (fun z => e (Or.inr (Or.inl z))), if_neg (fun z => e (Or.inr (Or.inr z))), if_neg (fun z => e (Or.inr (Or.inr z)))]
  unfold St.flg
  rw [lp _ (Nat.le_refl _)]
theorem pk_sur {A : St} (O : A.Ok) {r : Int} (hr : A.row r) : ∀ n q p, q + n = A.nq.toNat → A.row p → (∀ j : Nat, j < q → dg p j = dg r j) → ∃ k, k < A.nrw n q ∧ A.pk n q k p = r := by
  have h6 := O.nq
  intro n
  induction n with
  | zero =>
    intro q p hq hp H
    refine ⟨0, Nat.lt_succ_self 0, ?_⟩
    show p = r
    refine row_eq hp.1 hp.2.1 hr.1 hr.2.1 (fun k k0 k1 => ?_)
    by_cases hk : k < A.nq
    · have := H k.toNat (by omega)
      rw [show ((k.toNat : Nat) : Int) = k by omega] at this
      exact this
    · rw [hp.2.2.2 k (by omega) k1, hr.2.2.2 k (by omega) k1]
  | succ n ih =>
    intro q p hq hp H
    have hi : inq A q := ⟨by omega, by omega⟩
    have c := O.ch q hi
    have d := hr.2.2.1 q hi
    have d0 := dg_r r q
    obtain ⟨a, ha⟩ : ∃ a : Nat, dg r q = a := ⟨(dg r q).toNat, by omega⟩
    have ha2 : 0 ≤ (a : Int) ∧ (a : Int) < A.ch q := by omega
    obtain ⟨k, k1, k2⟩ := ih (q + 1) (wa p q a) (by omega) (row_wa O hp hi ha2) (fun j hj => by
      by_cases e : j = q
      · rw [e, wa_e hp.1 hp.2.1 (by omega) (by omega) (by omega) (by omega), ha]
      · rw [wa_n hp.1 hp.2.1 (by omega) (by omega) (by omega) (by omega) (by omega) (by omega) (by omega)]
        exact H j (by omega))
    refine ⟨a * A.nrw n (q + 1) + k, ?_, ?_⟩
    · rw [St.nrw]
      have : (a + 1) * A.nrw n (q + 1) ≤ (A.ch q).toNat * A.nrw n (q + 1) := Nat.mul_le_mul_right _ (by omega)
      rw [Nat.succ_mul] at this
      omega
    · rw [St.pk]
      have e1 : (a * A.nrw n (q + 1) + k) % A.nrw n (q + 1) = k := by rw [Nat.mul_add_mod_self_right, Nat.mod_eq_of_lt k1]
      have e2 : (a * A.nrw n (q + 1) + k) / A.nrw n (q + 1) = a := by rw [Nat.mul_comm, Nat.mul_add_div (by omega), Nat.div_eq_of_lt k1, Nat.add_zero]
      rw [e1, e2]; exact k2
/-- a row by its number; how it differs from a sheet's -/
def St.rk (A : St) (k : Nat) : Int := A.pk A.nq.toNat 0 k 0
def St.rd (A : St) (s : Int) (k : Nat) : Int := dif (A.pa s) (A.rk k) A.nq.toNat
def St.hI (A : St) (s u : Int) (N : Nat) : Option Nat → Prop
  | none => ∀ k, k < N → A.flg s (A.rk k) u = true
  | some j => j < N ∧ A.flg s (A.rk j) u = false ∧ ∀ k, k < N → A.flg s (A.rk k) u = false → A.rd s j < A.rd s k ∨ (A.rd s j = A.rd s k ∧ j ≤ k)
theorem hI_skip {A : St} {s u : Int} {N j : Nat} (h : A.hI s u N (some j)) (hd : A.rd s j ≤ A.rd s N) : A.hI s u (N + 1) (some j) := by
  obtain ⟨h1, h2, h3⟩ := h
  refine ⟨by omega, h2, fun k hk hf => ?_⟩
  by_cases e : k = N
  · subst e; omega
  · exact h3 k (by omega) hf
theorem hI_seen {A : St} {s u : Int} {N : Nat} {kb : Option Nat} (h : A.hI s u N kb) (hf : A.flg s (A.rk N) u = true) : A.hI s u (N + 1) kb := by
  cases kb with
  | none =>
    intro k hk
    by_cases e : k = N
    · rw [e]; exact hf
    · exact h k (by omega)
  | some j =>
    obtain ⟨h1, h2, h3⟩ := h
    refine ⟨by omega, h2, fun k hk hff => ?_⟩
    by_cases e : k = N
    · rw [e, hf] at hff; cases hff
    · exact h3 k (by omega) hff
theorem hI_new {A : St} {s u : Int} {N : Nat} {kb : Option Nat} (h : A.hI s u N kb) (hf : A.flg s (A.rk N) u = false) (hd : ∀ j, kb = some j → A.rd s N < A.rd s j) : A.hI s u (N + 1) (some N) := by
  refine ⟨Nat.lt_succ_self N, hf, fun k hk hff => ?_⟩
  by_cases e : k = N
  · subst e; exact Or.inr ⟨rfl, Nat.le_refl _⟩
  · cases kb with
    | none => have := h k (by omega); rw [this] at hff; cases hff
    | some j =>
      have := h.2.2 k (by omega) hff
      have := hd j rfl
      omega
theorem hcd_0 (A : St) (s u o : Int) (k : Nat) : A.hcd s u A.nq.toNat 0 0 o k = true ↔ A.rd s k = o ∧ A.flg s (A.rk k) u = false := by
  unfold St.hcd
  have e0 : dif (A.pa s) 0 0 = 0 := rfl
  rw [Bool.and_eq_true, decide_eq_true_iff, e0, Int.zero_add, Bool.not_eq_true']
  exact Iff.rfl
theorem rd_r (A : St) (s : Int) (k : Nat) : 0 ≤ A.rd s k ∧ A.rd s k ≤ A.nq.toNat := dif_r _ _ _
theorem hid_of {A : St} (O : A.Ok) {s u : Int} (hs : ins A s) {kb : Option Nat} (h : A.hI s u (A.nrw A.nq.toNat 0) kb) : A.hid s u = kb := by
  have hno : ∀ o : Int, (∀ k, k < A.nrw A.nq.toNat 0 → A.flg s (A.rk k) u = false → A.rd s k ≠ o) → A.hfs s u A.nq.toNat 0 0 o = none := by
    intro o H
    unfold St.hfs
    rw [fstN_none]
    intro k hk
    cases hc : A.hcd s u A.nq.toNat 0 0 o k
    · rfl
    · have := (hcd_0 A s u o k).mp hc
      exact absurd this.1 (H k hk this.2)
  cases kb with
  | none =>
    have lp : ∀ m o, A.nea s u m o = none := by
      intro m
      induction m with
      | zero => intro o; rfl
      | succ m ih =>
        intro o
        rw [St.nea, hno o (fun k hk hf => by have := h k hk; rw [this] at hf; cases hf)]
        exact ih _
    exact lp _ _
  | some j =>
    obtain ⟨h1, h2, h3⟩ := h
    have rj := rd_r A s j
    have lp : ∀ (m : Nat) (o : Int), 0 ≤ o → o ≤ A.rd s j → A.rd s j < o + m → A.nea s u m o = some j := by
      intro m
      induction m with
      | zero => intro o _ _ _; omega
      | succ m ih =>
        intro o o0 o1 o2
        by_cases e : o = A.rd s j
        · have f : A.hfs s u A.nq.toNat 0 0 o = some j := by
            unfold St.hfs
            refine fstN_is h1 ((hcd_0 A s u o j).mpr ⟨e.symm, h2⟩) (fun i hi => ?_)
            cases hc : A.hcd s u A.nq.toNat 0 0 o i
            · rfl
            · have z := (hcd_0 A s u o i).mp hc
              have := h3 i (by omega) z.2
              omega
          rw [St.nea, f]
        · rw [St.nea, hno o (fun k hk hf z => by have := h3 k hk hf; omega)]
          exact ih (o + 1) (by omega) (by omega) (by omega)
    unfold St.hid
    by_cases hg : A.gby u = true
    · rw [if_pos hg]
      exact lp (A.nq.toNat + 1) 0 (by decide) rj.1 (by omega)
    · rw [if_neg hg]
      have h6 := O.nq
      obtain ⟨k0, a1, a2⟩ := pk_sur O (O.pa s hs) A.nq.toNat 0 0 (by omega) (row_0 O) (fun j hj => by omega)
      have a2 : A.rk k0 = A.pa s := a2
      have f : A.flg s (A.rk k0) u = false := by rw [flg_ind (r := A.rk j) hg]; exact h2
      have z := h3 k0 a1 f
      have e : A.rd s k0 = 0 := by
        unfold St.rd
        rw [a2, dif_0]
        exact fun _ _ => rfl
      exact lp 1 0 (by decide) rj.1 (by omega)
theorem MS.setp {f f2 : Int → Int} {A : St} (M : MS f A) (O : A.Ok) {s p : Int} (hs : ins A s) (e : ∀ j, ¬ (257 + 13 * s ≤ j ∧ j < 257 + 13 * s + A.nq) → f2 j = f j) (v : ∀ q, 0 ≤ q → q < A.nq → f2 (257 + 13 * s + q) = dg p q) : MS f2 (A.setp s p) := by
  have h6 := O.nq
  have h16 := O.ns
  have hd := O.nd
  have s0 := hs.1
  have s1 := hs.2
  refine ⟨by rw [e 0 (by omega)]; exact M.nq, by rw [e 1 (by omega)]; exact M.nd, by rw [e 2 (by omega)]; exact M.ns, by rw [e 3 (by omega)]; exact M.nr, by rw [e 4 (by omega)]; exact M.wk, by rw [e 5 (by omega)]; exact M.ca, by rw [e 6 (by omega)]; exact M.cm, fun q hq => ?_, fun m q hm hq => ?_, fun m q r a hm hq r0 r1 b0 b1 => ?_, fun i i0 i1 => ?_, fun i i0 i1 => ?_, fun i hi => ?_, fun i hi => ?_, fun i hi => ?_, fun i hi => ?_, fun i hi => ?_, fun i hi => ?_, fun i hi h3 => ?_, fun i q hi hq => ?_, fun r r0 r1 => ?_, fun k k0 k1 => ?_, fun k k0 k1 => ?_⟩
  · have h1 : 0 ≤ q := hq.1
    have h2 : q < A.nq := hq.2
    rw [e _ (by omega)]; exact M.ch q hq
  · have h1 : 0 ≤ q := hq.1
    have h2 : q < A.nq := hq.2
    have := bit1_le hm
    rw [e _ (by omega)]; exact M.gb m q hm hq
  · have h1 : 0 ≤ q := hq.1
    have h2 : q < A.nq := hq.2
    have := bit1_le hm
    have h3 := (O.rows hm hq).2
    have h4 := O.ch q hq
    have r1 : r < A.rows m q := r1
    have b1 : a < A.ch q := b1
    rw [e _ (by omega)]; exact M.wt m q r a hm hq r0 r1 b0 b1
  · have i1 : i < A.nd := i1
    rw [e _ (by omega)]; exact M.dx i i0 i1
  · have i1 : i < A.nd := i1
    rw [e _ (by omega)]; exact M.dy i i0 i1
  · have h1 : 0 ≤ i := hi.1
    have h2 : i < A.ns := hi.2
    rw [e _ (by omega)]; exact M.ask i hi
  · have h1 : 0 ≤ i := hi.1
    have h2 : i < A.ns := hi.2
    rw [e _ (by omega)]; exact M.dr i hi
  · have h1 : 0 ≤ i := hi.1
    have h2 : i < A.ns := hi.2
    rw [e _ (by omega)]; exact M.fr i hi
  · have h1 : 0 ≤ i := hi.1
    have h2 : i < A.ns := hi.2
    rw [e _ (by omega)]; exact M.tt i hi
  · have h1 : 0 ≤ i := hi.1
    have h2 : i < A.ns := hi.2
    rw [e _ (by omega)]; exact M.cd i hi
  · have h1 : 0 ≤ i := hi.1
    have h2 : i < A.ns := hi.2
    rw [e _ (by omega)]; exact M.tr i hi
  · have h1 : 0 ≤ i := hi.1
    have h2 : i < A.ns := hi.2
    rw [e _ (by omega)]; exact M.hf i hi h3
  · have h1 : 0 ≤ i := hi.1
    have h2 : i < A.ns := hi.2
    have h3 : 0 ≤ q := hq.1
    have h4 : q < A.nq := hq.2
    show _ = dg (kset A.pa s p i) q
    unfold kset
    by_cases hx : i = s
    · rw [if_pos hx, hx, show 250 + 13 * s + 7 + q = 257 + 13 * s + q by omega]; exact v q h3 h4
    · rw [if_neg hx, e _ (by omega)]; exact M.pa i q hi hq
  · rw [e _ (by omega)]; exact M.rs r r0 r1
  · rw [e _ (by omega)]; exact M.op k k0 k1
  · rw [e _ (by omega)]; exact M.nm k k0 k1
