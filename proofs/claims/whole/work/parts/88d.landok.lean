/-! what is read of a land is well made -/
theorem shq_r {c a : Int} (hc : 2 ≤ c ∧ c ≤ 4) : 0 ≤ shq c a ∧ shq c a ≤ 16 := by
  unfold shq
  have h : c = 2 ∨ c = 3 ∨ c = 4 := by omega
  rcases h with rfl | rfl | rfl <;> (split <;> decide)
theorem shq_s {c : Int} (hc : 2 ≤ c ∧ c ≤ 4) : shq c 0 + shq c 1 + (if 2 < c then shq c 2 else 0) + (if 3 < c then shq c 3 else 0) = 16 := by
  have h : c = 2 ∨ c = 3 ∨ c = 4 := by omega
  rcases h with rfl | rfl | rfl <;> decide
theorem PL.empty_ok : PL.empty.Ok := by
  refine ⟨⟨by decide, by decide, by decide, by decide, by decide, by decide, by decide, ?_, ?_, ?_, ?_, ?_, ?_, ?_, ?_, ?_, ?_, ?_, ?_, ?_, ?_, rfl, ?_, by decide, ?_, ?_⟩, rfl, rfl, fun _ _ _ _ _ => ⟨rfl, rfl⟩, fun _ _ => Or.inl rfl, ?_, Or.inl rfl, Or.inl rfl⟩
  all_goals first
    | exact fun q hq => absurd hq (by unfold inq; show ¬ (0 ≤ q ∧ q < 0); omega)
    | exact fun m q _ hq => absurd hq (by unfold inq; show ¬ (0 ≤ q ∧ q < 0); omega)
    | exact fun m q r a _ hq => absurd hq (by unfold inq; show ¬ (0 ≤ q ∧ q < 0); omega)
    | exact fun m q r _ hq => absurd hq (by unfold inq; show ¬ (0 ≤ q ∧ q < 0); omega)
    | exact fun q hq => absurd hq (by unfold ins; show ¬ (0 ≤ q ∧ q < 0); omega)
    | exact fun i h0 h1 => absurd h1 (by show ¬ (i < 0); omega)
theorem PL.Ok.walk {L : PL} (P : L.Ok) {w : Int} (hw : 1 ≤ w ∧ w ≤ 99) : (L.walk w).Ok := by
  have O := P.O
  exact ⟨⟨O.nq, O.nd, O.ns, O.nr, hw, O.ca, O.cm, O.ch, O.gb, O.wt, O.ws, O.dx, O.dy, O.ask, O.dr, O.fr, O.tt, O.pa, O.cd, O.tr, O.hf, O.rs0, O.rs, O.rsm, O.op, O.dp⟩, P.ns, P.nr, P.un, P.tb, P.ut, Or.inr rfl, P.cb⟩
theorem PL.Ok.cards {L : PL} (P : L.Ok) {a b : Int} (ha : 0 ≤ a ∧ a ≤ 16) (hb : 0 ≤ b ∧ b ≤ 16) : (L.cards a b).Ok := by
  have O := P.O
  exact ⟨⟨O.nq, O.nd, O.ns, O.nr, O.wk, ha, hb, O.ch, O.gb, O.wt, O.ws, O.dx, O.dy, O.ask, O.dr, O.fr, O.tt, O.pa, O.cd, O.tr, O.hf, O.rs0, O.rs, O.rsm, O.op, O.dp⟩, P.ns, P.nr, P.un, P.tb, P.ut, P.wb, Or.inr rfl⟩
theorem PL.Ok.addd {L : PL} (P : L.Ok) (hd : L.A.nd < 16) {x y : Int} (hx : 0 ≤ x ∧ x ≤ 99) (hy : 0 ≤ y ∧ y ≤ 99) : (L.addd x y).Ok := by
  have O := P.O
  have n0 := O.nd
  have no : ∀ s, ¬ ins (L.addd x y).A s := by
    intro s z
    have z0 : 0 ≤ s := z.1
    have z1 : s < L.A.ns := z.2
    rw [P.ns] at z1
    omega
  refine ⟨⟨O.nq, ?_, O.ns, O.nr, O.wk, O.ca, O.cm, O.ch, O.gb, O.wt, O.ws, ?_, ?_, O.ask, fun s hs => absurd hs (no s), O.fr, O.tt, O.pa, O.cd, O.tr, O.hf, O.rs0, O.rs, O.rsm, O.op, O.dp⟩, P.ns, P.nr, P.un, P.tb, P.ut, P.wb, P.cb⟩
  · show 0 ≤ L.A.nd + 1 ∧ L.A.nd + 1 ≤ 16
    omega
  · intro i h0 h1
    have h1 : i < L.A.nd + 1 := h1
    show 0 ≤ (if i = L.A.nd then x else L.A.dx i) ∧ (if i = L.A.nd then x else L.A.dx i) ≤ 99
    split
    · exact hx
    · exact O.dx i h0 (by omega)
  · intro i h0 h1
    have h1 : i < L.A.nd + 1 := h1
    show 0 ≤ (if i = L.A.nd then y else L.A.dy i) ∧ (if i = L.A.nd then y else L.A.dy i) ≤ 99
    split
    · exact hy
    · exact O.dy i h0 (by omega)
theorem PL.Ok.addq {L : PL} (P : L.Ok) (hq : L.A.nq < 6) {w c : Int} (hc : 2 ≤ c ∧ c ≤ 4) : (L.addq w c).Ok := by
  have O := P.O
  have n0 := O.nq
  have no : ∀ s, ¬ ins (L.addq w c).A s := by
    intro s z
    have z0 : 0 ≤ s := z.1
    have z1 : s < L.A.ns := z.2
    rw [P.ns] at z1
    omega
  have old : ∀ q, inq (L.addq w c).A q → q ≠ L.A.nq → inq L.A q := by
    intro q hq hn
    have z1 : q < L.A.nq + 1 := hq.2
    exact ⟨hq.1, by omega⟩
  have ech : ∀ q, q ≠ L.A.nq → (L.addq w c).A.ch q = L.A.ch q := fun q hn => if_neg hn
  have egb : ∀ m q, q ≠ L.A.nq → (L.addq w c).A.gb m q = L.A.gb m q := fun m q hn => if_neg hn
  have ewt : ∀ m q r a, q ≠ L.A.nq → (L.addq w c).A.wt m q r a = L.A.wt m q r a := fun m q r a hn => if_neg hn
  have nch : (L.addq w c).A.ch L.A.nq = c := if_pos rfl
  have ngb : ∀ m, (L.addq w c).A.gb m L.A.nq = -1 := fun m => if_pos rfl
  have nwt : ∀ m r a, (L.addq w c).A.wt m L.A.nq r a = shq c a := fun m r a => if_pos rfl
  have ero : ∀ m q, bit1 m → inq L.A q → q ≠ L.A.nq → (L.addq w c).A.rows m q = L.A.rows m q := by
    intro m q hm hi hn
    unfold St.rows
    rw [egb m q hn]
    rcases O.gb m q hm hi with z | z
    · rw [if_pos z, if_pos z]
    · rw [if_neg (by omega), if_neg (by omega), ech _ (by have := hi.2; omega)]
  refine ⟨⟨?_, O.nd, O.ns, O.nr, O.wk, O.ca, O.cm, ?_, ?_, ?_, ?_, O.dx, O.dy, fun s hs => absurd hs (no s), fun s hs => absurd hs (no s), fun s hs => absurd hs (no s), fun s hs => absurd hs (no s), fun s hs => absurd hs (no s), fun s hs => absurd hs (no s), fun s hs => absurd hs (no s), fun s hs => absurd hs (no s), O.rs0, O.rs, O.rsm, O.op, O.dp⟩, P.ns, P.nr, ?_, P.tb, ?_, P.wb, P.cb⟩
  · show 0 ≤ L.A.nq + 1 ∧ L.A.nq + 1 ≤ 6
    omega
  · intro q hi
    by_cases e : q = L.A.nq
    · rw [e, nch]; exact hc
    · rw [ech q e]; exact O.ch q (old q hi e)
  · intro m q hm hi
    by_cases e : q = L.A.nq
    · rw [e, ngb]; exact Or.inl rfl
    · rw [egb m q e]; exact O.gb m q hm (old q hi e)
  · intro m q r a hm hi r0 r1 a0 a1
    by_cases e : q = L.A.nq
    · rw [e, nwt]; exact shq_r hc
    · rw [ewt m q r a e]
      rw [ero m q hm (old q hi e) e] at r1
      rw [ech q e] at a1
      exact O.wt m q r a hm (old q hi e) r0 r1 a0 a1
  · intro m q r hm hi r0 r1
    by_cases e : q = L.A.nq
    · rw [e, nwt, nwt, nwt, nwt, nch]; exact shq_s hc
    · rw [ewt m q r _ e, ewt m q r _ e, ewt m q r _ e, ewt m q r _ e, ech q e]
      rw [ero m q hm (old q hi e) e] at r1
      exact O.ws m q r hm (old q hi e) r0 r1
  · intro m q hm h1 h2
    have h1 : L.A.nq + 1 ≤ q := h1
    rw [egb m q (by omega)]
    exact P.un m q hm (by omega) h2
  · intro m q hm hi ht
    by_cases e : q = L.A.nq
    · rw [e, ngb, nch]
      exact ⟨rfl, fun a => nwt m 0 a⟩
    · have u := P.ut m q hm (old q hi e) ht
      rw [egb m q e, ech q e]
      exact ⟨u.1, fun a => by rw [ewt m q 0 a e]; exact u.2 a⟩
theorem PL.Ok.tab {L : PL} (P : L.Ok) {m q b : Int} {w : Int → Int → Int} (hm : bit1 m) (hq : inq L.A q) (hb : b = -1 ∨ (0 ≤ b ∧ b < q)) (hw : ∀ r, 0 ≤ r → r < (if b = -1 then 1 else L.A.ch b) → (∀ a, 0 ≤ a → a < L.A.ch q → 0 ≤ w r a ∧ w r a ≤ 16) ∧ w r 0 + w r 1 + (if 2 < L.A.ch q then w r 2 else 0) + (if 3 < L.A.ch q then w r 3 else 0) = 16) : (L.tab m q b w).Ok := by
  have O := P.O
  have n0 := O.nq
  have ngb : (L.tab m q b w).A.gb m q = b := if_pos ⟨rfl, rfl⟩
  have nwt : ∀ r a, (L.tab m q b w).A.wt m q r a = w r a := fun r a => if_pos ⟨rfl, rfl⟩
  have egb : ∀ m2 q2, ¬ (m2 = m ∧ q2 = q) → (L.tab m q b w).A.gb m2 q2 = L.A.gb m2 q2 := fun m2 q2 hn => if_neg hn
  have ewt : ∀ m2 q2 r a, ¬ (m2 = m ∧ q2 = q) → (L.tab m q b w).A.wt m2 q2 r a = L.A.wt m2 q2 r a := fun m2 q2 r a hn => if_neg hn
  have etq : ∀ m2 q2, ¬ (m2 = m ∧ q2 = q) → (L.tab m q b w).tq m2 q2 = L.tq m2 q2 := fun m2 q2 hn => if_neg hn
  have ech : ∀ q2, (L.tab m q b w).A.ch q2 = L.A.ch q2 := fun _ => rfl
  have ero : ∀ m2 q2, ¬ (m2 = m ∧ q2 = q) → (L.tab m q b w).A.rows m2 q2 = L.A.rows m2 q2 := by
    intro m2 q2 hn
    unfold St.rows
    rw [egb m2 q2 hn, ech]
  have nro : (L.tab m q b w).A.rows m q = if b = -1 then 1 else L.A.ch b := by
    unfold St.rows
    rw [ngb, ech]
  refine ⟨⟨O.nq, O.nd, O.ns, O.nr, O.wk, O.ca, O.cm, O.ch, ?_, ?_, ?_, O.dx, O.dy, O.ask, O.dr, O.fr, O.tt, O.pa, O.cd, O.tr, O.hf, O.rs0, O.rs, O.rsm, O.op, O.dp⟩, P.ns, P.nr, ?_, ?_, ?_, P.wb, P.cb⟩
  · intro m2 q2 hm2 hi
    by_cases e : m2 = m ∧ q2 = q
    · rw [e.1, e.2, ngb]; exact hb
    · rw [egb m2 q2 e]; exact O.gb m2 q2 hm2 hi
  · intro m2 q2 r a hm2 hi r0 r1 a0 a1
    by_cases e : m2 = m ∧ q2 = q
    · obtain ⟨e1, e2⟩ := e
      subst e1 e2
      rw [nro] at r1
      rw [nwt]
      exact (hw r r0 r1).1 a a0 a1
    · rw [ero m2 q2 e] at r1
      rw [ewt m2 q2 r a e]
      exact O.wt m2 q2 r a hm2 hi r0 r1 a0 a1
  · intro m2 q2 r hm2 hi r0 r1
    by_cases e : m2 = m ∧ q2 = q
    · obtain ⟨e1, e2⟩ := e
      subst e1 e2
      rw [nro] at r1
      rw [nwt, nwt, nwt, nwt]
      exact (hw r r0 r1).2
    · rw [ero m2 q2 e] at r1
      rw [ewt m2 q2 r _ e, ewt m2 q2 r _ e, ewt m2 q2 r _ e, ewt m2 q2 r _ e]
      exact O.ws m2 q2 r hm2 hi r0 r1
  · intro m2 q2 hm2 h1 h2
    have h1 : L.A.nq ≤ q2 := h1
    have e : ¬ (m2 = m ∧ q2 = q) := fun z => by have := hq.2; omega
    rw [egb m2 q2 e, etq m2 q2 e]
    exact P.un m2 q2 hm2 h1 h2
  · intro m2 q2
    by_cases e : m2 = m ∧ q2 = q
    · exact Or.inr (if_pos e)
    · rw [etq m2 q2 e]; exact P.tb m2 q2
  · intro m2 q2 hm2 hi ht
    by_cases e : m2 = m ∧ q2 = q
    · have z : (L.tab m q b w).tq m2 q2 = 1 := if_pos e
      omega
    · rw [etq m2 q2 e] at ht
      rw [egb m2 q2 e, ech]
      have u := P.ut m2 q2 hm2 hi ht
      exact ⟨u.1, fun a => by rw [ewt m2 q2 0 a e]; exact u.2 a⟩
