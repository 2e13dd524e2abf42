/-! tests, terms: the model's machine against the reading -/
theorem emL_n (C : PR) : ∀ i : Nat, ∀ C : PR, emL (List.replicate i 3) C = ntsP i C := by
  intro i
  induction i with
  | zero => intro C; rfl
  | succ i ih => intro C; exact ih (C.emit 3 0)
theorem n3L_n : ∀ i : Nat, n3L (List.replicate i 3) = (i : Int) := by
  intro i
  induction i with
  | zero => rfl
  | succ i ih =>
    show (if (3 : Int) = 3 then 1 else 0) + n3L (List.replicate i 3) = _
    rw [ih, if_pos rfl]; omega
theorem n3L_0 : ∀ q : List Int, (∀ x, x ∈ q → x < 3) → n3L q = 0 := by
  intro q
  induction q with
  | nil => intro _; rfl
  | cons x q ih =>
    intro h
    have a := h x List.mem_cons_self
    show (if x = 3 then 1 else 0) + n3L q = 0
    rw [if_neg (by omega), ih (fun y hy => h y (List.mem_cons_of_mem _ hy))]; omega
theorem emL_ln : ∀ (q : List Int) (C : PR), (emL q C).ln = C.ln + (q.length : Int) := by
  intro q
  induction q with
  | nil => intro C; show C.ln = C.ln + 0; omega
  | cons x q ih =>
    intro C
    show (emL q (C.emit x 0)).ln = _
    rw [ih]
    show C.ln + 1 + _ = _
    rw [List.length_cons]; omega
theorem emL_nr : ∀ (q : List Int) (C : PR), (emL q C).A.nr = C.A.nr := by
  intro q
  induction q with
  | nil => intro C; rfl
  | cons x q ih => intro C; exact ih (C.emit x 0)
theorem emL_a : ∀ (q : List Int) (C : PR) (o : Int), emL (q ++ [o]) C = (emL q C).emit o 0 := by
  intro q
  induction q with
  | nil => intro C o; rfl
  | cons x q ih => intro C o; exact ih (C.emit x 0) o
theorem flt_p {t : Int → Int} {n p : Nat} {k : Int} (h : 0 < k) : 0 < flt t n p k := by unfold flt; split <;> omega
/-- the loop ends with a fault -/
theorem LE0 {g : KG} {h0 h : KH} (K : MK g h0) (F : FM h0 h) {k pl : Int} (X : MF h k pl) (k0 : 0 < k) {D : Nat} {Q : Option KV → KG → KH → Prop} (q : Q (some (xI 0)) g h) : Rn D 197 55 [xR 138, xI 0] [] g h Q := by
  rw [B197_55, if_pos rfl, ga K.k0, X.fk, if_neg (by omega), ga (by decide)]
  exact q
theorem LPush {g : KG} {h0 h : KH} (K0 : MK g h0) (F : FM h0 h) {t : Int → Int} {n p : Nat} {C : PR} {s : List Int} {dep : Int} (Z : MZ h t n p C s dep 0) (len : s.length ≤ 60) (hd : 0 ≤ dep ∧ dep ≤ 20) {a1 a2 v : Int} {d : Nat} {Q : Option KV → KG → KH → Prop} (hQ : ∀ h2 : KH, FM h0 h2 → MZ h2 t n (nxt t n p) C (v :: s) (dep + 1) 0 → Rn (d + 6) 197 55 [xR 138, xI 1] [] g h2 Q) : Rn (d + 5) 195 70 [xR 138, xI a1, xI a2, xU] [xI v, xI (s.length : Int), xR 146] g h (fun r g1 h1 => Rn (d + 6) 197 77 [xR 138, xI 1] (r.toList ++ []) g1 h1 Q) := by
  have K := F.mk K0
  have y : ∀ i u, hset h 146 i u 138 = h 138 := fun i u => hset_a _ _ _ (by decide)
  rw [B195_70, ga ⟨K.k146, by decide, by omega, by rw [K.l146]; omega⟩, ga K.k0, ga K.k0, ga K.k0, ga K.k0, y, Z.sl, hset_i (j := 22) (i := 21) _ _ (by decide), y, Z.dp, w32_id (by omega) (by omega), w32_id (by omega) (by omega)]
  have F1 : FM h0 (hset (hset (hset h 146 (s.length : Int) v) 138 21 ((s.length : Int) + 1)) 138 22 (dep + 1)) := (F.f146.f138 (by decide)).f138 (by decide)
  have fj : ∀ j, j ≠ 21 → j ≠ 22 → hset (hset (hset h 146 (s.length : Int) v) 138 21 ((s.length : Int) + 1)) 138 22 (dep + 1) 138 j = h 138 j := fun j a b => by rw [hset_i _ _ b, hset_i _ _ a, y]
  have f21 : hset (hset (hset h 146 (s.length : Int) v) 138 21 ((s.length : Int) + 1)) 138 22 (dep + 1) 138 21 = (s.length : Int) + 1 := by rw [hset_i _ _ (by decide), hset_e]
  have f22 : hset (hset (hset h 146 (s.length : Int) v) 138 21 ((s.length : Int) + 1)) 138 22 (dep + 1) 138 22 = dep + 1 := hset_e _ _ _ _
  have fa : ∀ a, a ≠ 138 → a ≠ 146 → hset (hset (hset h 146 (s.length : Int) v) 138 21 ((s.length : Int) + 1)) 138 22 (dep + 1) a = h a := fun a a0 a1 => by rw [hset_a _ _ _ a0, hset_a _ _ _ a0, hset_a _ _ _ a1]
  have fw : ∀ j, j ≠ (s.length : Int) → hset (hset (hset h 146 (s.length : Int) v) 138 21 ((s.length : Int) + 1)) 138 22 (dep + 1) 146 j = h 146 j := fun j hj => by rw [hset_a _ _ _ (by decide), hset_a _ _ _ (by decide), hset_i _ _ hj]
  have fv : hset (hset (hset h 146 (s.length : Int) v) 138 21 ((s.length : Int) + 1)) 138 22 (dep + 1) 146 (s.length : Int) = v := by rw [hset_a _ _ _ (by decide), hset_a _ _ _ (by decide), hset_e]
  generalize hset (hset (hset h 146 (s.length : Int) v) 138 21 ((s.length : Int) + 1)) 138 22 (dep + 1) = h1 at *
  have Z1 : MZ h1 t n p C (v :: s) (dep + 1) 0 := ⟨Z.mp.kp (fun j j0 j1 => fj j (by omega) (by omega)) (fa 144 (by decide) (by decide)), Z.mi.kp (fa 139 (by decide) (by decide)) (fj 23 (by decide) (by decide)) (fj 24 (by decide) (by decide)), by rw [f21, List.length_cons]; omega, f22, by rw [fj 25 (by decide) (by decide)]; exact Z.dn, fv, Z.mw.keep s (fun j j0 j1 => fw j (by omega))⟩
  have K1 := F1.mk K0
  rw [B195_91, ga K.k0]
  refine M176 K1 Z1.mp (fun h2 f2 _ T2 => ?_)
  rw [o0, List.nil_append, B195_95, ga (by decide), o1, List.cons_append, List.nil_append, B197_77]
  exact hQ h2 (F1.tok f2) (Z1.tok f2 T2)
/-- a test, from the machine's loop on -/
def LT (g : KG) (t : Int → Int) (n lv : Nat) : Prop := ∀ (d i : Nat) (s : List Int) (h0 h : KH) (C : PR) (p : Nat) (Q : Option KV → KG → KH → Prop), MK g h0 → FM h0 h → MZ h t n p C (List.replicate i 3 ++ s) (8 - (lv : Int)) 0 → (∀ x l, s = x :: l → x < 3) → C.Ok → 2 * (C.ln + i) ≤ p → s.length + i + 3 * lv ≤ 26 → (∀ (k pl : Int) (h2 : KH), nts i (sTest t n lv C p) = .inr (k, pl) → FM h0 h2 → MF h2 k pl → 0 < k → Q (some (xI 0)) g h2) → (∀ (C2 : PR) (p2 : Nat) (h2 : KH), nts i (sTest t n lv C p) = .inl (C2, p2) → FM h0 h2 → MZ h2 t n p2 C2 s (8 - (lv : Int) - i) 1 → Rn (d + 6) 197 55 [xR 138, xI 1] [] g h2 Q) → Rn (d + 6) 197 55 [xR 138, xI 1] [] g h Q
def LTm (g : KG) (t : Int → Int) (n lv : Nat) : Prop := ∀ (d : Nat) (s : List Int) (h0 h : KH) (C : PR) (p : Nat) (Q : Option KV → KG → KH → Prop), MK g h0 → FM h0 h → MZ h t n p C s (8 - (lv : Int)) 0 → (∀ x l, s = x :: l → x < 2) → C.Ok → 2 * C.ln ≤ p → s.length + 3 * lv ≤ 25 → (∀ (k pl : Int) (h2 : KH), sTerm t n (sTest t n lv) C p = .inr (k, pl) → FM h0 h2 → MF h2 k pl → 0 < k → Q (some (xI 0)) g h2) → (∀ (C2 : PR) (p2 : Nat) (C' : PR) (q : List Int) (h2 : KH), sTerm t n (sTest t n lv) C p = .inl (C2, p2) → FM h0 h2 → (∀ x, x ∈ q → 2 ≤ x ∧ x < 3) → emL q C' = C2 → q.length ≤ 1 → 0 ≤ C'.ln → kyr (wdv t n p2) ≠ 2 → MZ h2 t n p2 C' (q ++ s) (8 - (lv : Int)) 1 → Rn (d + 6) 197 55 [xR 138, xI 1] [] g h2 Q) → Rn (d + 6) 197 55 [xR 138, xI 1] [] g h Q
def LTs (g : KG) (t : Int → Int) (n lv : Nat) : Prop := ∀ (d : Nat) (s : List Int) (h0 h : KH) (C : PR) (p : Nat) (Q : Option KV → KG → KH → Prop), MK g h0 → FM h0 h → MZ h t n p C s (8 - (lv : Int)) 0 → (∀ x l, s = x :: l → x < 1) → C.Ok → 2 * C.ln ≤ p → s.length + 3 * lv ≤ 24 → (∀ (k pl : Int) (h2 : KH), sTerms t n (sTest t n lv) C p = .inr (k, pl) → FM h0 h2 → MF h2 k pl → 0 < k → Q (some (xI 0)) g h2) → (∀ (C2 : PR) (p2 : Nat) (C' : PR) (q : List Int) (h2 : KH), sTerms t n (sTest t n lv) C p = .inl (C2, p2) → FM h0 h2 → (∀ x, x ∈ q → 1 ≤ x ∧ x < 3) → emL q C' = C2 → q.length ≤ 2 → 0 ≤ C'.ln → kyr (wdv t n p2) ≠ 1 → kyr (wdv t n p2) ≠ 2 → MZ h2 t n p2 C' (q ++ s) (8 - (lv : Int)) 1 → Rn (d + 6) 197 55 [xR 138, xI 1] [] g h2 Q) → Rn (d + 6) 197 55 [xR 138, xI 1] [] g h Q
/-- an or, an and -/
theorem LJ12 {g : KG} {h0 h : KH} (K0 : MK g h0) (F : FM h0 h) {t : Int → Int} {n p : Nat} {C : PR} {q s : List Int} {dep o : Int} (ho : o = 1 ∨ o = 2) (Z : MZ h t n p C (q ++ s) dep 1) (y : kyr (wdv t n p) = o) (hq : ∀ x, x ∈ q → o ≤ x ∧ x < 3) (hs : ∀ x l, s = x :: l → x < o) (l0 : 0 ≤ C.ln) (l1 : C.ln + (q.length : Int) ≤ 210) (n4 : C.A.nr ≤ 4) (len : q.length + s.length ≤ 60) (hd : 0 ≤ dep ∧ dep ≤ 20) {d : Nat} {Q : Option KV → KG → KH → Prop} (hQ : ∀ h2 : KH, FM h0 h2 → MZ h2 t n (nxt t n p) (emL q C) (o :: s) dep 0 → Rn (d + 6) 197 55 [xR 138, xI 1] [] g h2 Q) : Rn (d + 6) 197 55 [xR 138, xI 1] [] g h Q := by
  have K := F.mk K0
  rw [B197_55, if_neg (by decide), ga K.k0, Z.dn, if_neg (by decide), ga K.k0, E196, ga K.k0]
  refine R178 K Z.mp ?_
  rw [o1, List.cons_append, List.nil_append, B196_6, y]
  have go : Rn (d + 5) 196 17 [xR 138, xI o] [] g h (fun r g1 h1 => Rn (d + 6) 197 70 [xR 138, xI 1] (r.toList ++ []) g1 h1 Q) := by
    rw [B196_17, ga K.k0]
    refine S194 K Z (fun x hx => (hq x hx).1) hs l0 l1 n4 len hd (fun h1 F1 Z1 => ?_)
    have F1' := F.tr F1
    have K1 := F1'.mk K0
    have e3 := n3L_0 q (fun x hx => (hq x hx).2)
    rw [e3, show dep - 0 = dep by omega] at Z1
    have y8 : ∀ i u, hset h1 146 i u 138 = h1 138 := fun i u => hset_a _ _ _ (by decide)
    rw [o0, List.nil_append, B196_22, ga K.k0, ga K.k0, K1.p20, Z1.sl, ga ⟨K.k146, by decide, by omega, by rw [K.l146]; omega⟩, ga K.k0, ga K.k0, ga ⟨K.k0, by decide, by decide⟩, ga K.k0, y8, Z1.sl, w32_id (by omega) (by omega)]
    have F2 : FM h0 (hset (hset (hset h1 146 (s.length : Int) o) 138 21 ((s.length : Int) + 1)) 138 25 0) := (F1'.f146.f138 (by decide)).f138 (by decide)
    have fj : ∀ j, j ≠ 21 → j ≠ 25 → hset (hset (hset h1 146 (s.length : Int) o) 138 21 ((s.length : Int) + 1)) 138 25 0 138 j = h1 138 j := fun j a b => by rw [hset_i _ _ b, hset_i _ _ a, y8]
    have f21 : hset (hset (hset h1 146 (s.length : Int) o) 138 21 ((s.length : Int) + 1)) 138 25 0 138 21 = (s.length : Int) + 1 := by rw [hset_i _ _ (by decide), hset_e]
    have f25 : hset (hset (hset h1 146 (s.length : Int) o) 138 21 ((s.length : Int) + 1)) 138 25 0 138 25 = 0 := hset_e _ _ _ _
    have fa : ∀ a, a ≠ 138 → a ≠ 146 → hset (hset (hset h1 146 (s.length : Int) o) 138 21 ((s.length : Int) + 1)) 138 25 0 a = h1 a := fun a a0 a1 => by rw [hset_a _ _ _ a0, hset_a _ _ _ a0, hset_a _ _ _ a1]
    have fw : ∀ j, j ≠ (s.length : Int) → hset (hset (hset h1 146 (s.length : Int) o) 138 21 ((s.length : Int) + 1)) 138 25 0 146 j = h1 146 j := fun j hj => by rw [hset_a _ _ _ (by decide), hset_a _ _ _ (by decide), hset_i _ _ hj]
    have fv : hset (hset (hset h1 146 (s.length : Int) o) 138 21 ((s.length : Int) + 1)) 138 25 0 146 (s.length : Int) = o := by rw [hset_a _ _ _ (by decide), hset_a _ _ _ (by decide), hset_e]
    generalize hset (hset (hset h1 146 (s.length : Int) o) 138 21 ((s.length : Int) + 1)) 138 25 0 = h2 at *
    have Z2 : MZ h2 t n p (emL q C) (o :: s) dep 0 := ⟨Z1.mp.kp (fun j j0 j1 => fj j (by omega) (by omega)) (fa 144 (by decide) (by decide)), Z1.mi.kp (fa 139 (by decide) (by decide)) (fj 23 (by decide) (by decide)) (fj 24 (by decide) (by decide)), by rw [f21, List.length_cons]; omega, by rw [fj 22 (by decide) (by decide)]; exact Z1.dp, f25, fv, Z1.mw.keep s (fun j j0 j1 => fw j (by omega))⟩
    have K2 := F2.mk K0
    refine M176 K2 Z2.mp (fun h3 f3 _ T3 => ?_)
    rw [o0, List.nil_append, B196_51, ga (by decide), o1, List.cons_append, List.nil_append, B197_70, B197_77]
    exact hQ h3 (F2.tok f3) (Z2.tok f3 T3)
  rcases ho with rfl | rfl
  · rw [if_pos rfl]; exact go
  · rw [if_neg (by decide), if_neg (fun z => z rfl)]; exact go
/-- neither -/
theorem LJ3 {g : KG} {h0 h : KH} (K0 : MK g h0) (F : FM h0 h) {t : Int → Int} {n p : Nat} {C : PR} {q s : List Int} {dep : Int} (Z : MZ h t n p C (q ++ s) dep 1) (y1 : kyr (wdv t n p) ≠ 1) (y2 : kyr (wdv t n p) ≠ 2) (hq : ∀ x, x ∈ q → 1 ≤ x ∧ x < 3) (hs : ∀ x l, s = x :: l → x < 1) (l0 : 0 ≤ C.ln) (l1 : C.ln + (q.length : Int) ≤ 180) (n4 : C.A.nr ≤ 4) (len : q.length + s.length ≤ 40) (hd : 0 ≤ dep ∧ dep ≤ 20) {d : Nat} {Q : Option KV → KG → KH → Prop} (hn : ¬ (sgnD t n p 41 ∧ s ≠ []) → ∀ h2 : KH, FM h0 h2 → MZ h2 t n p (emL q C) s dep 1 → Rn (d + 6) 197 55 [xR 138, xI 0] [] g h2 Q) (hQ : sgnD t n p 41 → ∀ (x : Int) (i : Nat) (s2 : List Int), s = x :: (List.replicate i 3 ++ s2) → (∀ x l, s2 = x :: l → x < 3) → 1 ≤ dep ∧ i ≤ 26 ∧ ∀ h2 : KH, FM h0 h2 → MZ h2 t n (nxt t n p) (ntsP i (emL q C)) s2 (dep - 1 - i) 1 → Rn (d + 6) 197 55 [xR 138, xI 1] [] g h2 Q) (hx : s ≠ [] → ∃ (x : Int) (i : Nat) (s2 : List Int), s = x :: (List.replicate i 3 ++ s2) ∧ ∀ x l, s2 = x :: l → x < 3) : Rn (d + 6) 197 55 [xR 138, xI 1] [] g h Q := by
  have K := F.mk K0
  rw [B197_55, if_neg (by decide), ga K.k0, Z.dn, if_neg (by decide), ga K.k0, E196, ga K.k0]
  refine R178 K Z.mp ?_
  rw [o1, List.cons_append, List.nil_append, B196_6, if_neg y1, if_pos y2, ga K.k0]
  generalize kyr (wdv t n p) = kk
  refine S194 K Z (fun x hx => (hq x hx).1) hs l0 (by omega) n4 (by omega) hd (fun h1 F1 Z1 => ?_)
  have F1' := F.tr F1
  have K1 := F1'.mk K0
  have e3 := n3L_0 q (fun x hx => (hq x hx).2)
  rw [e3, show dep - 0 = dep by omega] at Z1
  rw [o0, List.nil_append, B196_58, ga K.k0]
  refine M177 K1 Z1.mp ?_
  have no : ¬ (sgnD t n p 41 ∧ s ≠ []) → Rn (d + 5) 196 74 [xR 138, xI kk] [] g h1 (fun r g1 h1 => Rn (d + 6) 197 70 [xR 138, xI 1] (r.toList ++ []) g1 h1 Q) := by
    intro z
    rw [B196_74, ga (by decide), o1, List.cons_append, List.nil_append, B197_70, B197_77]
    exact hn z h1 F1' Z1
  rw [o1, List.cons_append, List.nil_append, B196_64]
  by_cases y : sgnD t n p 41
  case neg =>
    rw [bzf y, if_pos rfl]
    exact no (fun z => y z.1)
  rw [bzt y, if_neg (by decide), ga K.k0, Z1.sl]
  by_cases e : s = []
  · rw [e, if_neg (fun z => z rfl)]
    exact no (fun z => z.2 e)
  obtain ⟨x, i, s2, es, h2s⟩ := hx e
  obtain ⟨d1, i8, hq2⟩ := hQ y x i s2 es h2s
  have c : (s.length : Int) = ((List.replicate i 3 ++ s2).length : Int) + 1 := by rw [es, List.length_cons]; omega
  have c2 : (List.replicate i (3 : Int) ++ s2).length = i + s2.length := by rw [List.length_append, List.length_replicate]
  rw [if_pos (by omega), ga K.k0, ga K.k0, ga K.k0, ga K.k0, ga K.k0, hset_i (j := 22) (i := 21) _ _ (by decide), Z1.dp, w32_id (by omega) (by omega), w32_id (by omega) (by omega)]
  have F2 : FM h0 (hset (hset h1 138 21 ((s.length : Int) - 1)) 138 22 (dep - 1)) := (F1'.f138 (by decide)).f138 (by decide)
  have fj : ∀ j, j ≠ 21 → j ≠ 22 → hset (hset h1 138 21 ((s.length : Int) - 1)) 138 22 (dep - 1) 138 j = h1 138 j := fun j a b => by rw [hset_i _ _ b, hset_i _ _ a]
  have f21 : hset (hset h1 138 21 ((s.length : Int) - 1)) 138 22 (dep - 1) 138 21 = (s.length : Int) - 1 := by rw [hset_i _ _ (by decide), hset_e]
  have f22 : hset (hset h1 138 21 ((s.length : Int) - 1)) 138 22 (dep - 1) 138 22 = dep - 1 := hset_e _ _ _ _
  have fa : ∀ a, a ≠ 138 → hset (hset h1 138 21 ((s.length : Int) - 1)) 138 22 (dep - 1) a = h1 a := fun a a0 => by rw [hset_a _ _ _ a0, hset_a _ _ _ a0]
  generalize hset (hset h1 138 21 ((s.length : Int) - 1)) 138 22 (dep - 1) = h2 at *
  have mw := Z1.mw
  rw [es] at mw
  have Z2 : MZ h2 t n p (emL q C) (List.replicate i 3 ++ s2) (dep - 1) 1 := ⟨Z1.mp.kp (fun j j0 j1 => fj j (by omega) (by omega)) (fa 144 (by decide)), Z1.mi.kp (fa 139 (by decide)) (fj 23 (by decide) (by decide)) (fj 24 (by decide) (by decide)), by rw [f21]; omega, f22, by rw [fj 25 (by decide) (by decide)]; exact Z1.dn, by rw [fa 146 (by decide)]; exact mw.2⟩
  have K2 := F2.mk K0
  refine M176 K2 Z2.mp (fun h3 f3 _ T3 => ?_)
  have F3 := F2.tok f3
  have Z3 := Z2.tok f3 T3
  have K3 := F3.mk K0
  have el := emL_ln q C
  have en := emL_nr q C
  rw [o0, List.nil_append, B196_100, ga K.k0]
  refine S194 K3 Z3 (fun x hx => by rw [(List.mem_replicate.1 hx).2]; decide) h2s (by omega) (by rw [List.length_replicate]; omega) (by omega) (by rw [List.length_replicate]; omega) (by omega) (fun h4 F4 Z4 => ?_)
  rw [n3L_n, emL_n C] at Z4
  rw [o0, List.nil_append, B196_105, ga (by decide), o1, List.cons_append, List.nil_append, B197_70, B197_77]
  exact hq2 h4 (F3.tr F4) Z4
