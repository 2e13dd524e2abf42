/-! worlds, on the class's side -/
def nxd (s : Int) : Int := (s * 2053 + 13849) % 65536
theorem nxd_r (s : Int) : 0 ≤ nxd s ∧ nxd s < 65536 := by unfold nxd; omega
theorem drw {s n : Int} (h : 0 ≤ s ∧ s < 65536) (hn : 0 < n) : Int.tmod (w32 (w32 (s * 2053) + 13849)) 65536 = nxd s ∧ Int.tmod (w32 (Int.tdiv (nxd s) 8)) n = nxd s / 8 % n := by
  have r := nxd_r s
  constructor
  · rw [w32_id (x := s * 2053) (by omega) (by omega), w32_id (by omega) (by omega), Int.tmod_eq_emod_of_nonneg (by omega)]; rfl
  · rw [Int.tdiv_eq_ediv_of_nonneg r.1, w32_id (by omega) (by omega), Int.tmod_eq_emod_of_nonneg (by omega)]
theorem S64 {g : KG} {h : KH} {s n : Int} (k : gK g 6 = 7) (e : h 6 11 = s) (hs : 0 ≤ s ∧ s < 65536) (hn : 0 < n) {d : Nat} {Q : Option KV → KG → KH → Prop} (hQ : Q (some (xI (nxd s / 8 % n))) g (hset h 6 11 (nxd s))) : Cl (d + 1) 64 [xR 6, xI n] g h Q := by
  obtain ⟨d1, d2⟩ := drw hs hn
  rw [E64, ga k, ga (by decide), ga k, if_pos hn, ga k, ga (by decide), ga (by omega), e, d1, hset_e, B64_36, d2]
  exact hQ
/-- the weights of a row of a table up to an answer -/
def St.cum (A : St) (m q r : Int) (n : Nat) : Int := sumN (fun b => A.wt m q r b) n
theorem cum_ch {A : St} (O : A.Ok) {m q r : Int} (hm : bit1 m) (hq : inq A q) (r0 : 0 ≤ r) (r1 : r < A.rows m q) : A.cum m q r (A.ch q).toNat = 16 := by
  have c := O.ch q hq
  have w := O.ws m q r hm hq r0 r1
  have h : A.ch q = 2 ∨ A.ch q = 3 ∨ A.ch q = 4 := by omega
  unfold St.cum
  rcases h with h | h | h
  · rw [h] at w ⊢
    show 0 + A.wt m q r 0 + A.wt m q r 1 = 16
    simp only [Int.reduceLT, if_false] at w
    omega
  · rw [h] at w ⊢
    show 0 + A.wt m q r 0 + A.wt m q r 1 + A.wt m q r 2 = 16
    simp only [Int.reduceLT, if_false, if_true] at w
    omega
  · rw [h] at w ⊢
    show 0 + A.wt m q r 0 + A.wt m q r 1 + A.wt m q r 2 + A.wt m q r 3 = 16
    simp only [Int.reduceLT, if_true] at w
    omega
def St.dnb (A : St) (m q r x : Int) (a : Nat) : Bool := decide (x < A.cum m q r (a + 1))
def St.dan (A : St) (m q r x : Int) : Nat := (fstN (A.dnb m q r x) (A.ch q).toNat).getD 0
theorem dan_is {A : St} {m q r x : Int} {a : Nat} (h1 : a < (A.ch q).toNat) (h2 : x < A.cum m q r (a + 1)) (h3 : ∀ j, j < a → A.cum m q r (j + 1) ≤ x) : A.dan m q r x = a := by
  have e : fstN (A.dnb m q r x) (A.ch q).toNat = some a := fstN_is h1 (decide_eq_true h2) (fun j hj => decide_eq_false (by have := h3 j hj; omega))
  unfold St.dan
  rw [e]
  rfl
theorem dan_lt {A : St} (O : A.Ok) {m q r x : Int} (hm : bit1 m) (hq : inq A q) (r0 : 0 ≤ r) (r1 : r < A.rows m q) (hx : x < 16) : (A.dan m q r x : Int) < A.ch q := by
  have c := O.ch q hq
  have s := cum_ch O hm hq r0 r1
  unfold St.dan
  cases h : fstN (A.dnb m q r x) (A.ch q).toNat with
  | none =>
    have := (fstN_none _).mp h ((A.ch q).toNat - 1) (by omega)
    unfold St.dnb at this
    rw [show (A.ch q).toNat - 1 + 1 = (A.ch q).toNat by omega, s] at this
    have := of_decide_eq_false this
    omega
  | some a =>
    have := (fstN_some _ _ h).1
    show (a : Int) < _
    omega
/-- a row of a table that answers lead to -/
def St.rdx (A : St) (m p q : Int) : Int := if A.gb m q = -1 then 0 else dg p (A.gb m q)
theorem rdx_r {A : St} (O : A.Ok) {m p q : Int} (hm : bit1 m) (hq : inq A q) (hp : A.row p) : 0 ≤ A.rdx m p q ∧ A.rdx m p q < A.rows m q ∧ A.rdx m p q < 4 := by
  have g := O.gb m q hm hq
  unfold St.rdx St.rows
  have h2 := hq.2
  rcases g with g | ⟨g1, g2⟩
  · rw [if_pos g, if_pos g]; omega
  · rw [if_neg (by omega), if_neg (by omega)]
    have := hp.2.2.1 (A.gb m q) ⟨g1, by omega⟩
    have := dg_r p (A.gb m q)
    omega
theorem S70 {g : KG} {h : KH} {t m : Int} {A : St} (T : TR g h t A m) (O : A.Ok) {p q x : Int} (hm : bit1 m) (hq : inq A q) (hp : A.row p) (hx : 0 ≤ x ∧ x < 16) {d : Nat} {Q : Option KV → KG → KH → Prop} (hQ : Q (some (xI (A.dan m q (A.rdx m p q) x : Nat))) g h) : Cl (d + 2) 70 [xR t, xI p, xI q, xI (A.ch q), xI x] g h Q := by
  have h6 := O.nq
  have q0 := hq.1
  have q1 := hq.2
  have c := O.ch q hq
  have rr := rdx_r O hm hq hp
  have s16 := cum_ch O hm hq rr.1 rr.2.1
  have gb := O.gb m q hm hq
  have tb := T.b q hq
  have lp : ∀ n k : Nat, k + n = (A.ch q).toNat → (∀ j, j < k → A.cum m q (A.rdx m p q) (j + 1) ≤ x) → Rn (d + 1) 70 32 [xR t, xI p, xI q, xI (A.ch q), xI x, xI (A.rdx m p q), xI (A.cum m q (A.rdx m p q) k), xI (k : Int)] [] g h Q := by
    intro n
    induction n with
    | zero =>
      intro k hk H
      have := H (k - 1) (by omega)
      rw [show k - 1 + 1 = (A.ch q).toNat by omega, s16] at this
      omega
    | succ n ih =>
      intro k hk H
      have e1 : ((k : Int) + 1) = ((k + 1 : Nat) : Int) := by omega
      have w := T.w q (A.rdx m p q) k hq rr.1 rr.2.1 (by omega) (by omega)
      have wr := O.wt m q (A.rdx m p q) k hm hq rr.1 rr.2.1 (by omega) (by omega)
      have cs : A.cum m q (A.rdx m p q) (k + 1) = A.cum m q (A.rdx m p q) k + A.wt m q (A.rdx m p q) k := rfl
      have cr : 0 ≤ A.cum m q (A.rdx m p q) k ∧ A.cum m q (A.rdx m p q) k ≤ 64 := by
        have z := sumN_r (g := fun b => A.wt m q (A.rdx m p q) b) (b := 16) k (fun b hb => O.wt m q _ b hm hq rr.1 rr.2.1 (by omega) (by omega))
        unfold St.cum
        omega
      rw [B70_32, if_neg (by omega), ga T.k0, S154 (by omega) (by omega) rr.1 rr.2.2 (by omega) (by omega), T.p2, o1, List.cons_append, List.nil_append, B70_52, ga ⟨T.k3, by omega, by rw [T.l3]; omega⟩, w, ← cs, w32_id (by omega) (by omega)]
      by_cases hc : A.cum m q (A.rdx m p q) (k + 1) ≤ x
      · rw [if_pos hc, w32_id (by omega) (by omega), e1]
        refine ih (k + 1) (by omega) (fun j hj => ?_)
        by_cases e : j = k
        · rw [e]; exact hc
        · exact H j (by omega)
      · rw [if_neg hc]
        rw [dan_is (a := k) (by omega) (by omega) H] at hQ
        exact hQ
  have st := lp (A.ch q).toNat 0 (by omega) (fun j hj => by omega)
  rw [E70, ga T.k0, T.p0, ga ⟨T.k1, q0, by rw [T.l1]; omega⟩, tb]
  unfold St.rdx at st
  rcases gb with gb | ⟨gb1, gb2⟩
  · rw [if_pos gb] at st
    rw [if_neg (fun z => z gb), B70_24]
    exact st
  · rw [if_neg (by omega)] at st
    rw [if_pos (by omega), ga T.k0, ga ⟨T.k1, q0, by rw [T.l1]; omega⟩, S151 gb1 (by omega), o1, List.cons_append, List.nil_append, B70_24]
    exact st
/-- answers that are drawn, from a seed -/
def St.dro (A : St) (mf s0 : Int) : Nat → Int × Int
  | 0 => (0, s0)
  | q + 1 => (wa (A.dro mf s0 q).1 q (A.dan (if (q : Int) < mf then 0 else 1) q (A.rdx (if (q : Int) < mf then 0 else 1) (A.dro mf s0 q).1 q) (nxd (A.dro mf s0 q).2 / 8 % 16) : Nat), nxd (A.dro mf s0 q).2)
theorem mfb {q : Nat} {mf : Int} : bit1 (if (q : Int) < mf then 0 else 1) := by split; exact Or.inl rfl; exact Or.inr rfl
theorem dro_r {A : St} (O : A.Ok) {mf s0 : Int} (hs : 0 ≤ s0 ∧ s0 < 65536) : ∀ q : Nat, q ≤ A.nq.toNat → A.row (A.dro mf s0 q).1 ∧ 0 ≤ (A.dro mf s0 q).2 ∧ (A.dro mf s0 q).2 < 65536 := by
  have h6 := O.nq
  intro q
  induction q with
  | zero => intro _; exact ⟨row_0 O, hs⟩
  | succ q ih =>
    intro hq
    have i := ih (by omega)
    have hi : inq A q := ⟨by omega, by omega⟩
    have rr := rdx_r O (m := if (q : Int) < mf then 0 else 1) mfb hi i.1
    refine ⟨row_wa O i.1 hi ⟨Int.natCast_nonneg _, dan_lt O mfb hi rr.1 rr.2.1 (by omega)⟩, nxd_r _⟩
theorem S63 {g : KG} {h : KH} {l : Int} {A : St} (k0 : gK g 6 = 7) (pl : h 6 0 = l) (hl : l = 7 ∨ l = 39) (L : LR g h l A) (O : A.Ok) {mf s0 : Int} (e : h 6 11 = s0) (hs : 0 ≤ s0 ∧ s0 < 65536) {d : Nat} {Q : Option KV → KG → KH → Prop} (hQ : ∀ h2 : KH, (∀ c, c ≠ 6 → h2 c = h c) → (∀ j, j ≠ 11 → h2 6 j = h 6 j) → h2 6 11 = (A.dro mf s0 A.nq.toNat).2 → Q (some (xI (A.dro mf s0 A.nq.toNat).1)) g h2) : Cl (d + 3) 63 [xR 6, xI mf] g h Q := by
  have h6 := O.nq
  have lp : ∀ n q : Nat, q + n = A.nq.toNat → ∀ (h1 : KH) (x : KV), (∀ c, c ≠ 6 → h1 c = h c) → (∀ j, j ≠ 11 → h1 6 j = h 6 j) → h1 6 11 = (A.dro mf s0 q).2 → Rn (d + 2) 63 4 [xR 6, xI mf, xI (A.dro mf s0 q).1, xI (q : Int), x] [] g h1 Q := by
    intro n
    induction n with
    | zero =>
      intro q hq h1 x f1 t1 s1
      have hq : q = A.nq.toNat := by omega
      rw [B63_4, ga k0, t1 0 (by decide), pl, ga L.k0, f1 l (by omega), L.nq, if_pos (by omega), hq]
      rw [hq] at s1
      exact hQ h1 f1 t1 s1
    | succ n ih =>
      intro q hq h1 x f1 t1 s1
      have hi : inq A q := ⟨by omega, by omega⟩
      have e1 : ((q : Int) + 1) = ((q + 1 : Nat) : Int) := by omega
      have L1 : LR g h1 l A := L.keep (fun a _ _ => f1 a (by omega))
      have dr := dro_r O (mf := mf) hs q (by omega)
      have c := O.ch q hi
      have nx := ih (q + 1) (by omega)
      rw [St.dro] at nx
      have rr := rdx_r O (m := if (q : Int) < mf then 0 else 1) mfb hi dr.1
      have dl := dan_lt O (m := if (q : Int) < mf then 0 else 1) (x := nxd (A.dro mf s0 q).2 / 8 % 16) mfb hi rr.1 rr.2.1 (by omega)
      have fin : ∀ t m : Int, t = (if m = 0 then l + 3 else l + 7) → m = (if (q : Int) < mf then 0 else 1) → Rn (d + 2) 63 37 [xR 6, xI mf, xI (A.dro mf s0 q).1, xI (q : Int), x] [xR t] g h1 Q := by
        intro t m ht hmm
        rw [← hmm] at nx dl
        have hm : bit1 m := by rw [hmm]; exact mfb
        have TT : TR g (hset h1 6 11 (nxd (A.dro mf s0 q).2)) t A m := by
          rcases hm with e | e
          · rw [e, if_pos rfl] at ht
            rw [e, ht]
            exact L1.tl.keep (fun a _ _ => hset_a _ _ _ (by omega))
          · rw [e, if_neg (by decide)] at ht
            rw [e, ht]
            exact L1.tm.keep (fun a _ _ => hset_a _ _ _ (by omega))
        have t0 : 0 ≤ t := by rw [ht]; split <;> omega
        rw [B63_37, ga t0, ga k0, t1 0 (by decide), pl, ga L.k0, L1.p2, ga ⟨L.k2, by omega, by rw [L.l2]; omega⟩, L1.ch q hi, ga k0]
        refine S64 k0 s1 dr.2 (by decide) ?_
        rw [o1, List.cons_append, List.nil_append, B63_60, ga TT.k0]
        refine S70 TT O hm hi dr.1 (by omega) ?_
        rw [o1, List.cons_append, List.nil_append, B63_63, S152 dr.1.1 dr.1.2.1 (by omega) (by omega) (Int.natCast_nonneg _) (by omega), o1, List.cons_append, List.nil_append, B63_66, w32_id (by omega) (by omega), e1]
        exact nx _ _ (fun c hc => by rw [hset_a _ _ _ hc, f1 c hc]) (fun j hj => by rw [hset_i _ _ hj, t1 j hj]) (hset_e _ _ _ _)
      rw [B63_4, ga k0, t1 0 (by decide), pl, ga L.k0, L1.nq, if_neg (by omega)]
      by_cases hmf : mf ≤ (q : Int)
      · rw [if_pos hmf, ga k0, ga L.k0, L1.p4]
        exact fin _ 1 (by rw [if_neg (by decide)]) (by rw [if_neg (by omega)])
      · rw [if_neg hmf, ga k0, ga L.k0, L1.p3]
        exact fin _ 0 (by rw [if_pos rfl]) (by rw [if_pos (by omega)])
  rw [E63]
  exact lp A.nq.toNat 0 (by omega) h _ (fun _ _ => rfl) (fun _ _ => rfl) e
theorem ks2 {f f2 : Int → Int} {i v : Int} (H : ∀ j, j ≠ i → f j = f2 j) (j : Int) : kset f i v j = kset f2 i v j := by
  unfold kset
  by_cases e : j = i
  · rw [if_pos e, if_pos e]
  · rw [if_neg e, if_neg e]; exact H j e
abbrev Wst : Type := Int × Int × (Int → Int) × (Int → Int) × (Int → Int)
/-- one sheet of a world: its truth t, from where made mf, drawn from a seed -/
def St.wfn (A : St) (i : Nat) (s : Wst) (t mf sd : Int) : Wst := ((A.dro mf sd A.nq.toNat).2, s.2.1 + (if t = 1 then 1 else 0), kset s.2.2.1 i t, kset s.2.2.2.1 i mf, kset s.2.2.2.2 i (A.dro mf sd A.nq.toNat).1)
def St.wsp (A : St) (sh ha : Int) (i : Nat) (s : Wst) : Wst := if nxd s.1 / 8 % 16 < sh then A.wfn i s 2 0 (nxd s.1) else if nxd s.1 / 8 % 16 < sh + ha then (if A.nq = 0 then A.wfn i s 3 0 (nxd s.1) else A.wfn i s 3 (nxd (nxd s.1) / 8 % A.nq) (nxd (nxd s.1))) else A.wfn i s 1 6 (nxd s.1)
def St.wss (A : St) (sd sh ha : Int) : Nat → Wst
  | 0 => (sd, 0, A.tr, A.hf, A.pa)
  | i + 1 => A.wsp sh ha i (A.wss sd sh ha i)
/-- what holds of a world half drawn -/
def WOk (A : St) (s : Wst) (n : Nat) : Prop := (0 ≤ s.1 ∧ s.1 < 65536) ∧ (0 ≤ s.2.1 ∧ s.2.1 ≤ n) ∧ (∀ i, ins A i → 0 ≤ s.2.2.1 i ∧ s.2.2.1 i ≤ 3) ∧ (∀ i, ins A i → s.2.2.1 i = 3 → 0 ≤ s.2.2.2.1 i ∧ s.2.2.2.1 i ≤ 6) ∧ (∀ i, ins A i → A.row (s.2.2.2.2 i))
theorem WOk.sd {A : St} {s : Wst} {n : Nat} (z_ : WOk A s n) : 0 ≤ s.1 ∧ s.1 < 65536 := z_.1
theorem WOk.ak {A : St} {s : Wst} {n : Nat} (z_ : WOk A s n) : 0 ≤ s.2.1 ∧ s.2.1 ≤ n := z_.2.1
theorem WOk.tr {A : St} {s : Wst} {n : Nat} (z_ : WOk A s n) : ∀ i, ins A i → 0 ≤ s.2.2.1 i ∧ s.2.2.1 i ≤ 3 := z_.2.2.1
theorem WOk.hf {A : St} {s : Wst} {n : Nat} (z_ : WOk A s n) : ∀ i, ins A i → s.2.2.1 i = 3 → 0 ≤ s.2.2.2.1 i ∧ s.2.2.2.1 i ≤ 6 := z_.2.2.2.1
theorem WOk.pa {A : St} {s : Wst} {n : Nat} (z_ : WOk A s n) : ∀ i, ins A i → A.row (s.2.2.2.2 i) := z_.2.2.2.2
theorem wfn_ok {A : St} (O : A.Ok) {s : Wst} {i : Nat} (H : WOk A s i) {t mf sd : Int} (ht : 1 ≤ t ∧ t ≤ 3) (hmf : 0 ≤ mf ∧ mf ≤ 6) (hsd : 0 ≤ sd ∧ sd < 65536) : WOk A (A.wfn i s t mf sd) (i + 1) := by
  have dr := dro_r O (mf := mf) hsd A.nq.toNat (Nat.le_refl _)
  refine ⟨dr.2, ?_, fun j hj => ?_, fun j hj h3 => ?_, fun j hj => ?_⟩
  · show 0 ≤ s.2.1 + (if t = 1 then 1 else 0) ∧ s.2.1 + (if t = 1 then 1 else 0) ≤ ((i + 1 : Nat) : Int)
    have := H.ak
    split <;> omega
  · exact kset_c (fun x => 0 ≤ x ∧ x ≤ 3) (fun _ => by omega) (fun _ => H.tr j hj)
  · have h3 : kset s.2.2.1 i t j = 3 := h3
    show 0 ≤ kset s.2.2.2.1 i mf j ∧ kset s.2.2.2.1 i mf j ≤ 6
    unfold kset at h3 ⊢
    by_cases e : j = i
    · rw [if_pos e]; exact hmf
    · rw [if_neg e] at h3 ⊢; exact H.hf j hj h3
  · exact kset_c (fun x => A.row x) (fun _ => dr.1) (fun _ => H.pa j hj)
theorem wss_ok {A : St} (O : A.Ok) {sd sh ha : Int} (hsd : 0 ≤ sd ∧ sd < 65536) : ∀ n : Nat, WOk A (A.wss sd sh ha n) n := by
  have h6 := O.nq
  intro n
  induction n with
  | zero => exact ⟨hsd, ⟨Int.le_refl 0, Int.le_refl 0⟩, O.tr, O.hf, O.pa⟩
  | succ n ih =>
    rw [St.wss]
    generalize A.wss sd sh ha n = s at *
    have r1 := nxd_r s.1
    unfold St.wsp
    split
    · exact wfn_ok O ih (by decide) (by decide) r1
    · split
      · split
        · exact wfn_ok O ih (by decide) (by decide) r1
        · have r2 := nxd_r (nxd s.1)
          have m0 : 0 ≤ nxd (nxd s.1) / 8 % A.nq := Int.emod_nonneg _ (by omega)
          have m1 : nxd (nxd s.1) / 8 % A.nq < A.nq := Int.emod_lt_of_pos _ (by omega)
          exact wfn_ok O ih (by decide) ⟨m0, by omega⟩ r2
      · exact wfn_ok O ih (by decide) (by decide) r1
def St.wrd (A : St) (s : Wst) : St := A.shs A.ns A.ask A.dr A.fr A.tt s.2.2.2.2 A.cd s.2.2.1 s.2.2.2.1
theorem St.Ok.wrd {A : St} (O : A.Ok) {s : Wst} {n : Nat} (H : WOk A s n) : (A.wrd s).Ok :=
  ⟨O.nq, O.nd, O.ns, O.nr, O.wk, O.ca, O.cm, O.ch, O.gb, O.wt, O.ws, O.dx, O.dy, O.ask, O.dr, O.fr, O.tt, H.pa, O.cd, H.tr, H.hf, O.rs0, O.rs, O.rsm, O.op, O.dp⟩
def Wd.world (W : Wd) (sd sh ha : Int) : Wd × Int := if (0 ≤ sd ∧ sd ≤ 9999) ∧ (0 ≤ sh ∧ sh ≤ 16) ∧ 0 ≤ ha ∧ ha ≤ 16 - sh then (W.cu (W.cur.wrd (W.cur.wss sd sh ha W.cur.ns.toNat)) 0, (W.cur.wss sd sh ha W.cur.ns.toNat).2.1) else (W.st 1, -1)
theorem S62 {g : KG} {h : KH} {l r : Int} {A : St} (S : SR g h 6 l r A) (hl : l = 7 ∨ l = 39) (O : A.Ok) {sd sh ha : Int} (hsd : 0 ≤ sd ∧ sd < 65536) (hsh : 0 ≤ sh ∧ sh ≤ 16) (hha : 0 ≤ ha ∧ ha ≤ 16) {d : Nat} {Q : Option KV → KG → KH → Prop} (hQ : ∀ h2 : KH, (∀ c, c ≠ 6 → c ≠ 27 → c ≠ 29 → c ≠ 30 → h2 c = h c) → (∀ j, j ≠ 11 → h2 6 j = h 6 j) → (∀ i, ins A i → h2 27 i = (A.wss sd sh ha A.ns.toNat).2.2.2.2 i ∧ h2 29 i = (A.wss sd sh ha A.ns.toNat).2.2.1 i ∧ ((A.wss sd sh ha A.ns.toNat).2.2.1 i = 3 → h2 30 i = (A.wss sd sh ha A.ns.toNat).2.2.2.1 i)) → Q (some (xI (A.wss sd sh ha A.ns.toNat).2.1)) g h2) : Cl (d + 4) 62 [xR 6, xI sd, xI sh, xI ha] g h Q := by
  have h6 := O.nq
  have h16 := O.ns
  have hl0 : 0 ≤ l := by omega
  have lp : ∀ n i : Nat, i + n = A.ns.toNat → ∀ (h1 : KH) (x y : KV), (∀ c, c ≠ 6 → c ≠ 27 → c ≠ 29 → c ≠ 30 → h1 c = h c) → (∀ j, j ≠ 11 → h1 6 j = h 6 j) → h1 6 11 = (A.wss sd sh ha i).1 → (∀ j, ins A j → h1 27 j = (A.wss sd sh ha i).2.2.2.2 j ∧ h1 29 j = (A.wss sd sh ha i).2.2.1 j ∧ ((A.wss sd sh ha i).2.2.1 j = 3 → h1 30 j = (A.wss sd sh ha i).2.2.2.1 j)) → Rn (d + 3) 62 11 [xR 6, xI sd, xI sh, xI ha, xI (A.wss sd sh ha i).2.1, xI (i : Int), x, y] [] g h1 Q := by
    intro n
    induction n with
    | zero =>
      intro i hi h1 x y f1 t1 s1 v1
      have hi : i = A.ns.toNat := by omega
      rw [B62_11, ga S.k0, t1 2 (by decide), S.ns, if_pos (by omega), hi]
      rw [hi] at v1
      exact hQ h1 f1 t1 v1
    | succ n ih =>
      intro i hi h1 x y f1 t1 s1 v1
      have e1 : ((i : Int) + 1) = ((i + 1 : Nat) : Int) := by omega
      have ok := wss_ok O (sh := sh) (ha := ha) hsd i
      have nx := ih (i + 1) (by omega)
      rw [St.wss] at nx
      generalize A.wss sd sh ha i = s at *
      have sr := ok.sd
      have sa := ok.ak
      have r1 := nxd_r s.1
      -- the end of one sheet
      have fin : ∀ (h2 : KH) (k t mf s2 : Int), (∀ c, c ≠ 6 → c ≠ 29 → h2 c = h1 c) → (∀ j, j ≠ 11 → h2 6 j = h 6 j) → h2 6 11 = s2 → (0 ≤ s2 ∧ s2 < 65536) → (∀ j, h2 29 j = kset (h1 29) i t j) → A.wsp sh ha i s = A.wfn i s t mf s2 → Rn (d + 3) 62 109 [xR 6, xI sd, xI sh, xI ha, xI (s.2.1 + (if t = 1 then 1 else 0)), xI (i : Int), xI k, xI mf] [] g h2 Q := by
        intro h2 k t mf s2 f2 t2 e2 b2 v29 hw
        rw [hw] at nx
        have p7 : h2 6 7 = 27 := by rw [t2 7 (by decide)]; exact S.n7
        have p10 : h2 6 10 = 30 := by rw [t2 10 (by decide)]; exact S.n10
        have pl : h2 6 0 = l := by rw [t2 0 (by decide)]; exact S.pl
        have L2 : LR g h2 l A := S.L.keep (fun a a0 a1 => by rw [f2 a (by omega) (by omega), f1 a (by omega) (by omega) (by omega) (by omega)])
        have z6 : (hset h2 30 i mf) 6 = h2 6 := hset_a _ _ _ (by decide)
        rw [B62_109, ga S.k0, p10, ga ⟨S.m30, by decide, by omega, by rw [S.w30]; omega⟩, ga S.k0, ga S.k0, z6, p7]
        refine S63 S.k0 (by rw [z6]; exact pl) hl (L2.keep (fun a _ _ => hset_a _ _ _ (by omega))) O (by rw [z6]; exact e2) b2 (fun h3 f3 t3 s3 => ?_)
        rw [o1, List.cons_append, List.nil_append, B62_130, ga ⟨S.m27, by decide, by omega, by rw [S.w27]; omega⟩, w32_id (by omega) (by omega), e1]
        refine nx _ _ _ (fun c c1 c2 c3 c4 => by rw [hset_a _ _ _ c2, f3 c c1, hset_a _ _ _ c4, f2 c c1 c3, f1 c c1 c2 c3 c4]) (fun j hj => by rw [hset_a _ _ _ (by decide), t3 j hj, z6, t2 j hj]) (by rw [hset_a _ _ _ (by decide)]; exact s3) (fun j hj => ⟨?_, ?_, fun h3' => ?_⟩)
        · show _ = kset s.2.2.2.2 i (A.dro mf s2 A.nq.toNat).1 j
          unfold kset
          by_cases e : j = i
          · rw [if_pos e, e, hset_e]
          · rw [if_neg e, hset_i _ _ e, f3 27 (by decide), hset_a _ _ _ (by decide), f2 27 (by decide) (by decide)]; exact (v1 j hj).1
        · show _ = kset s.2.2.1 i t j
          rw [hset_a _ _ _ (by decide), f3 29 (by decide), hset_a _ _ _ (by decide), v29]
          unfold kset
          by_cases e : j = i
          · rw [if_pos e, if_pos e]
          · rw [if_neg e, if_neg e]; exact (v1 j hj).2.1
        · have h3' : kset s.2.2.1 i t j = 3 := h3'
          show _ = kset s.2.2.2.1 i mf j
          rw [hset_a _ _ _ (by decide), f3 30 (by decide)]
          unfold kset at h3' ⊢
          by_cases e : j = i
          · rw [if_pos e, e, hset_e]
          · rw [if_neg e] at h3' ⊢
            rw [hset_i _ _ e, f2 30 (by decide) (by decide)]; exact (v1 j hj).2.2 h3'
      rw [B62_11, ga S.k0, t1 2 (by decide), S.ns, if_neg (by omega), ga S.k0]
      refine S64 S.k0 s1 sr (by decide) ?_
      generalize eA : hset h1 6 11 (nxd s.1) = hA
      have kA : ∀ c, c ≠ 6 → hA c = h1 c := fun c hc => by rw [← eA, hset_a _ _ _ hc]
      have tA : ∀ j, j ≠ 11 → hA 6 j = h 6 j := fun j hj => by rw [← eA, hset_i _ _ hj, t1 j hj]
      have sA : hA 6 11 = nxd s.1 := by rw [← eA, hset_e]
      have p9 : hA 6 9 = 29 := by rw [tA 9 (by decide)]; exact S.n9
      have g29 : gK g 29 = 20 ∧ (0 : Int) ≤ 29 ∧ 0 ≤ (i : Int) ∧ (i : Int) < gL g 29 := ⟨S.m29, by decide, by omega, by rw [S.w29]; omega⟩
      have z1 : ∀ v, (hset hA 29 i v) 6 = hA 6 := fun v => hset_a _ _ _ (by decide)
      have he : ∀ (f : KH) (a i x j : Int), hset f a i x a j = kset (f a) i x j := fun f a i x j => by unfold hset kset; simp
      rw [o1, List.cons_append, List.nil_append, B62_26, ga S.k0, p9, ga g29]
      by_cases c1 : nxd s.1 / 8 % 16 < sh
      · have hw : A.wsp sh ha i s = A.wfn i s 2 0 (nxd s.1) := by unfold St.wsp; rw [if_pos c1]
        rw [if_neg (by omega)]
        simp only [S.k0, true_and, z1, p9]
        rw [ga g29]
        have f := fin (hset (hset hA 29 i 1) 29 i 2) (nxd s.1 / 8 % 16) 2 0 (nxd s.1) (fun c c6 c29 => by rw [hset_a _ _ _ c29, hset_a _ _ _ c29, kA c c6]) (fun j hj => by rw [hset_a _ _ _ (by decide), hset_a _ _ _ (by decide), tA j hj]) (by rw [hset_a _ _ _ (by decide), hset_a _ _ _ (by decide), sA]) r1 (fun j => by rw [he]; exact ks2 (fun j hj => by rw [hset_i _ _ hj, kA 29 (by decide)]) j) hw
        rw [if_neg (by decide), Int.add_zero] at f
        exact f
      · rw [if_pos (by omega), w32_id (by omega) (by omega)]
        by_cases c2 : nxd s.1 / 8 % 16 < sh + ha
        · rw [if_neg (by omega)]
          simp only [S.k0, true_and, z1, p9]
          rw [ga g29]
          generalize eB : hset (hset hA 29 i 1) 29 i 3 = hB
          have kB : ∀ c, c ≠ 29 → hB c = hA c := fun c hc => by rw [← eB, hset_a _ _ _ hc, hset_a _ _ _ hc]
          have v29 : ∀ j, hB 29 j = kset (h1 29) i 3 j := fun j => by rw [← eB, he]; exact ks2 (fun j hj => by rw [hset_i _ _ hj, kA 29 (by decide)]) j
          have plB : hB 6 0 = l := by rw [kB 6 (by decide), tA 0 (by decide)]; exact S.pl
          have nqB : hB l 0 = A.nq := by rw [kB l (by omega), kA l (by omega), f1 l (by omega) (by omega) (by omega) (by omega)]; exact S.L.nq
          rw [plB, ga S.L.k0, nqB]
          by_cases c3 : A.nq = 0
          · have hw : A.wsp sh ha i s = A.wfn i s 3 0 (nxd s.1) := by unfold St.wsp; rw [if_neg c1, if_pos c2, if_pos c3]
            rw [if_neg (fun z => z c3), B62_101]
            have f := fin hB (nxd s.1 / 8 % 16) 3 0 (nxd s.1) (fun c c6 c29 => by rw [kB c c29, kA c c6]) (fun j hj => by rw [kB 6 (by decide), tA j hj]) (by rw [kB 6 (by decide), sA]) r1 v29 hw
            rw [if_neg (by decide), Int.add_zero] at f
            exact f
          · have hw : A.wsp sh ha i s = A.wfn i s 3 (nxd (nxd s.1) / 8 % A.nq) (nxd (nxd s.1)) := by unfold St.wsp; rw [if_neg c1, if_pos c2, if_neg c3]
            rw [if_pos c3, ga S.L.k0]
            refine S64 S.k0 (by rw [kB 6 (by decide), sA]) r1 (by omega) ?_
            rw [o1, List.cons_append, List.nil_append, B62_101]
            have f := fin (hset hB 6 11 (nxd (nxd s.1))) (nxd s.1 / 8 % 16) 3 (nxd (nxd s.1) / 8 % A.nq) (nxd (nxd s.1)) (fun c c6 c29 => by rw [hset_a _ _ _ c6, kB c c29, kA c c6]) (fun j hj => by rw [hset_i _ _ hj, kB 6 (by decide), tA j hj]) (hset_e _ _ _ _) (nxd_r _) (fun j => by rw [hset_a _ _ _ (by decide)]; exact v29 j) hw
            rw [if_neg (by decide), Int.add_zero] at f
            exact f
        · have hw : A.wsp sh ha i s = A.wfn i s 1 6 (nxd s.1) := by unfold St.wsp; rw [if_neg c1, if_neg c2]
          rw [if_pos (by omega), w32_id (by omega) (by omega)]
          have f := fin (hset hA 29 i 1) (nxd s.1 / 8 % 16) 1 6 (nxd s.1) (fun c c6 c29 => by rw [hset_a _ _ _ c29, kA c c6]) (fun j hj => by rw [hset_a _ _ _ (by decide), tA j hj]) (by rw [hset_a _ _ _ (by decide), sA]) r1 (fun j => by rw [he, kA 29 (by decide)]) hw
          rw [if_pos rfl] at f
          exact f
  rw [E62, ga S.k0]
  exact lp A.ns.toNat 0 (by omega) _ _ _ (fun c c6 _ _ _ => hset_a _ _ _ c6) (fun j hj => hset_i _ _ hj) (hset_e _ _ _ _) (fun j hj => ⟨by rw [hset_a _ _ _ (by decide)]; exact S.v27 j hj, by rw [hset_a _ _ _ (by decide)]; exact S.v29 j hj, fun h3 => by rw [hset_a _ _ _ (by decide)]; exact S.v30 j hj h3⟩)
theorem C129 {W : Wd} {sd sh ha : Int} : Cw 129 [xR 0, xI sd, xI sh, xI ha] 5 W (W.world sd sh ha) := by
  intro g h C d Q hQ
  have C0 := C
  obtain ⟨l, r, l2, r2, C1, C2, C3, C4, C5, C6, C7⟩ := C
  unfold Wd.world at hQ
  have O := C7.O
  have S := C7.S
  have no : ¬ ((0 ≤ sd ∧ sd ≤ 9999) ∧ (0 ≤ sh ∧ sh ≤ 16) ∧ 0 ≤ ha ∧ ha ≤ 16 - sh) → Rn (d + 4) 129 38 [xR 0, xI sd, xI sh, xI ha] [] g h Q := by
    intro z
    rw [if_neg z] at hQ
    rw [B129_38, ga C3.k0]
    simp only [S133 (k := C3.k0), S134 (k := C3.k0), S135 (k := C3.k0), S136 (k := C3.k0), o1, o0, List.cons_append, List.nil_append, B129_43]
    exact cst C0 hQ
  rw [E129, S146]
  by_cases h1 : 0 ≤ sd ∧ sd ≤ 9999
  · rw [bzt h1, o1, List.cons_append, List.nil_append, B129_9, if_neg (by decide), S146]
    by_cases h2 : 0 ≤ sh ∧ sh ≤ 16
    · rw [bzt h2, o1, List.cons_append, List.nil_append, B129_21, if_neg (by decide), w32_id (by omega) (by omega), S146]
      by_cases h3 : 0 ≤ ha ∧ ha ≤ 16 - sh
      · rw [if_pos ⟨h1, h2, h3⟩] at hQ
        have hl : l = 7 ∨ l = 39 := by have := C7.l; omega
        have ok := wss_ok O (sd := sd) (sh := sh) (ha := ha) (by omega) W.cur.ns.toNat
        rw [bzt h3, o1, List.cons_append, List.nil_append, B129_35, if_pos (by decide), ga C3.k0, C3.p4, ga S.k0]
        refine S62 S hl O (by omega) h2 (by omega) (fun h2 f2 t2 v2 => ?_)
        have y0 : h2 0 = h 0 := f2 0 (by decide) (by decide) (by decide) (by decide)
        rw [o1, List.cons_append, List.nil_append, B129_55, ga C3.k0]
        simp only [S133 (k := C3.k0), S134 (k := C3.k0), S135 (k := C3.k0), S136 (k := C3.k0), o1, o0, List.cons_append, List.nil_append, B129_58]
        generalize W.cur.wss sd sh ha W.cur.ns.toNat = s at *
        have z : ∀ c, c ≠ 0 → (hset h2 0 11 0) c = h2 c := fun c hc => hset_a _ _ _ hc
        have U := C0.sheet (h2 := hset h2 0 11 0) (ns := W.cur.ns) (ask := W.cur.ask) (dr := W.cur.dr) (fr := W.cur.fr) (tt := W.cur.tt) (pa := s.2.2.2.2) (cd := W.cur.cd) (tr := s.2.2.1) (hf := s.2.2.2.1) (O.wrd ok) (fun a a0 a1 a2 a3 a4 => by rw [z a a2, f2 a a3 (by omega) (by omega) (by omega)]) (fun j j1 j2 => by rw [z 6 (by decide), t2 j j2]) (fun j hj => by rw [hset_i _ _ hj, y0]) (by rw [z 6 (by decide), t2 2 (by decide)]; exact S.ns)
          (fun i i0 i1 => by rw [z 23 (by decide), f2 23 (by decide) (by decide) (by decide) (by decide)]; exact S.v23 i ⟨i0, i1⟩) (fun i i0 i1 => by rw [z 24 (by decide), f2 24 (by decide) (by decide) (by decide) (by decide)]; exact S.v24 i ⟨i0, i1⟩) (fun i i0 i1 => by rw [z 25 (by decide), f2 25 (by decide) (by decide) (by decide) (by decide)]; exact S.v25 i ⟨i0, i1⟩) (fun i i0 i1 => by rw [z 26 (by decide), f2 26 (by decide) (by decide) (by decide) (by decide)]; exact S.v26 i ⟨i0, i1⟩) (fun i i0 i1 => by rw [z 27 (by decide)]; exact (v2 i ⟨i0, i1⟩).1) (fun i i0 i1 => by rw [z 28 (by decide), f2 28 (by decide) (by decide) (by decide) (by decide)]; exact S.v28 i ⟨i0, i1⟩) (fun i i0 i1 => by rw [z 29 (by decide)]; exact (v2 i ⟨i0, i1⟩).2.1) (fun i i0 i1 h3 => by rw [z 30 (by decide)]; exact (v2 i ⟨i0, i1⟩).2.2 h3)
        rw [hset_e] at U
        exact hQ _ U (fun a ha => by rw [z a (by omega), f2 a (by omega) (by omega) (by omega) (by omega)])
      · rw [bzf h3, o1, List.cons_append, List.nil_append, B129_35, if_neg (fun z => z rfl)]
        exact no (fun z => h3 z.2.2)
    · rw [bzf h2, o1, List.cons_append, List.nil_append, B129_21, if_pos rfl]
      exact no (fun z => h2 z.2.1)
  · rw [bzf h1, o1, List.cons_append, List.nil_append, B129_9, if_pos rfl]
    exact no (fun z => h1 z.1)
