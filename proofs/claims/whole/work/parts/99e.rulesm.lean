/-! RULES' text, on the model's side: the stack of what waits, the signs -/
def MW (f : Int → Int) : List Int → Prop
  | [] => True
  | x :: l => f (l.length : Int) = x ∧ MW f l
theorem MW.keep {f f2 : Int → Int} : ∀ l : List Int, (∀ j : Int, 0 ≤ j → j < (l.length : Int) → f2 j = f j) → MW f l → MW f2 l := by
  intro l
  induction l with
  | nil => intro _ _; exact True.intro
  | cons x l ih =>
    intro e m
    have c : ((x :: l).length : Int) = (l.length : Int) + 1 := by rw [List.length_cons]; omega
    exact ⟨by rw [e _ (by omega) (by omega)]; exact m.1, ih (fun j j0 j1 => e j j0 (by omega)) m.2⟩
def MI (h : KH) (C : PR) : Prop := (h 139 3603 = C.A.nr) ∧ (∀ i, 0 ≤ i → i ≤ C.A.nr → h 139 (4058 + i) = C.A.rs i) ∧ (∀ k, 0 ≤ k → k < C.ln → h 139 (4064 + 2 * k) = C.A.op k) ∧ (∀ k, 0 ≤ k → k < C.ln → h 139 (4064 + 2 * k + 1) = C.A.nm k) ∧ (h 138 24 = C.ln) ∧ (h 138 23 = C.ts)
theorem MI.nr {h : KH} {C : PR} (z_ : MI h C) : h 139 3603 = C.A.nr := z_.1
theorem MI.rs {h : KH} {C : PR} (z_ : MI h C) : ∀ i, 0 ≤ i → i ≤ C.A.nr → h 139 (4058 + i) = C.A.rs i := z_.2.1
theorem MI.op {h : KH} {C : PR} (z_ : MI h C) : ∀ k, 0 ≤ k → k < C.ln → h 139 (4064 + 2 * k) = C.A.op k := z_.2.2.1
theorem MI.nm {h : KH} {C : PR} (z_ : MI h C) : ∀ k, 0 ≤ k → k < C.ln → h 139 (4064 + 2 * k + 1) = C.A.nm k := z_.2.2.2.1
theorem MI.ln {h : KH} {C : PR} (z_ : MI h C) : h 138 24 = C.ln := z_.2.2.2.2.1
theorem MI.ts {h : KH} {C : PR} (z_ : MI h C) : h 138 23 = C.ts := z_.2.2.2.2.2
theorem MI.kp {h h2 : KH} {C : PR} (I : MI h C) (e : h2 139 = h 139) (e3 : h2 138 23 = h 138 23) (e4 : h2 138 24 = h 138 24) : MI h2 C :=
  ⟨by rw [e]; exact I.nr, by rw [e]; exact I.rs, by rw [e]; exact I.op, by rw [e]; exact I.nm, by rw [e4]; exact I.ln, by rw [e3]; exact I.ts⟩
theorem MP.kp {h h2 : KH} {t : Int → Int} {n p : Nat} (T : MP h t n p) (e : ∀ j, 9 ≤ j → j ≤ 17 → h2 138 j = h 138 j) (e4 : h2 144 = h 144) : MP h2 t n p :=
  ⟨T.mt.keep (e 10 (by decide) (by decide)) e4, ⟨T.mu.pn, by rw [e 12 (by decide) (by decide)]; exact T.mu.fr, by rw [e 13 (by decide) (by decide)]; exact T.mu.en, by rw [e 11 (by decide) (by decide)]; exact T.mu.tk, by rw [e 14 (by decide) (by decide)]; exact T.mu.vl⟩, by rw [e 17 (by decide) (by decide)]; exact T.fk, by rw [e 16 (by decide) (by decide)]; exact T.fp, by rw [e 9 (by decide) (by decide)]; exact T.fd⟩
def MZ (h : KH) (t : Int → Int) (n p : Nat) (C : PR) (s : List Int) (dep dn : Int) : Prop := (MP h t n p) ∧ (MI h C) ∧ (h 138 21 = (s.length : Int)) ∧ (h 138 22 = dep) ∧ (h 138 25 = dn) ∧ (MW (h 146) s)
theorem MZ.mp {h : KH} {t : Int → Int} {n p : Nat} {C : PR} {s : List Int} {dep dn : Int} (z_ : MZ h t n p C s dep dn) : MP h t n p := z_.1
theorem MZ.mi {h : KH} {t : Int → Int} {n p : Nat} {C : PR} {s : List Int} {dep dn : Int} (z_ : MZ h t n p C s dep dn) : MI h C := z_.2.1
theorem MZ.sl {h : KH} {t : Int → Int} {n p : Nat} {C : PR} {s : List Int} {dep dn : Int} (z_ : MZ h t n p C s dep dn) : h 138 21 = (s.length : Int) := z_.2.2.1
theorem MZ.dp {h : KH} {t : Int → Int} {n p : Nat} {C : PR} {s : List Int} {dep dn : Int} (z_ : MZ h t n p C s dep dn) : h 138 22 = dep := z_.2.2.2.1
theorem MZ.dn {h : KH} {t : Int → Int} {n p : Nat} {C : PR} {s : List Int} {dep dn : Int} (z_ : MZ h t n p C s dep dn) : h 138 25 = dn := z_.2.2.2.2.1
theorem MZ.mw {h : KH} {t : Int → Int} {n p : Nat} {C : PR} {s : List Int} {dep dn : Int} (z_ : MZ h t n p C s dep dn) : MW (h 146) s := z_.2.2.2.2.2
def FM (h h2 : KH) : Prop := (∀ a, a ≠ 138 → a ≠ 139 → a ≠ 146 → h2 a = h a) ∧ (∀ j, (j < 11 ∨ (17 < j ∧ j < 21) ∨ 25 < j) → h2 138 j = h 138 j) ∧ ∀ j, j < 3600 → h2 139 j = h 139 j
theorem FM.rfl_ (h : KH) : FM h h := ⟨fun _ _ _ _ => rfl, fun _ _ => rfl, fun _ _ => rfl⟩
theorem FM.tr {h h1 h2 : KH} (F : FM h h1) (G : FM h1 h2) : FM h h2 := ⟨fun a x y z => by rw [G.1 a x y z, F.1 a x y z], fun j hj => by rw [G.2.1 j hj, F.2.1 j hj], fun j hj => by rw [G.2.2 j hj, F.2.2 j hj]⟩
theorem FM.tok {h h1 h2 : KH} (F : FM h h1) (f : FT h1 h2) : FM h h2 := ⟨fun a x y z => by rw [f.1 a x, F.1 a x y z], fun j hj => by rw [f.2 j (by omega)]; exact F.2.1 j hj, fun j hj => by rw [f.1 139 (by decide)]; exact F.2.2 j hj⟩
theorem FM.mk {g : KG} {h h2 : KH} (F : FM h h2) (K : MK g h) : MK g h2 := K.keep (fun j hj => F.2.1 j (by omega))
theorem FM.f138 {h h1 : KH} {j v : Int} (F : FM h h1) (hj : 20 < j ∧ j < 26) : FM h (hset h1 138 j v) := ⟨fun a x y z => by rw [hset_a _ _ _ x, F.1 a x y z], fun i hi => by rw [hset_i _ _ (by omega), F.2.1 i hi], fun i hi => by rw [hset_a _ _ _ (by decide), F.2.2 i hi]⟩
theorem FM.f146 {h h1 : KH} {j v : Int} (F : FM h h1) : FM h (hset h1 146 j v) := ⟨fun a x y z => by rw [hset_a _ _ _ z, F.1 a x y z], fun i hi => by rw [hset_a _ _ _ (by decide), F.2.1 i hi], fun i hi => by rw [hset_a _ _ _ (by decide), F.2.2 i hi]⟩
theorem FM.f139 {h h1 : KH} {j v : Int} (F : FM h h1) (hj : 3600 ≤ j) : FM h (hset h1 139 j v) := ⟨fun a x y z => by rw [hset_a _ _ _ y, F.1 a x y z], fun i hi => by rw [hset_a _ _ _ (by decide), F.2.1 i hi], fun i hi => by rw [hset_i _ _ (by omega), F.2.2 i hi]⟩
theorem MZ.tok {h h2 : KH} {t : Int → Int} {n p p2 : Nat} {C : PR} {s : List Int} {dep dn : Int} (Z : MZ h t n p C s dep dn) (f : FT h h2) (T : MP h2 t n p2) : MZ h2 t n p2 C s dep dn :=
  ⟨T, Z.mi.kp (f.1 139 (by decide)) (f.2 23 (by decide)) (f.2 24 (by decide)), by rw [f.2 21 (by decide)]; exact Z.sl, by rw [f.2 22 (by decide)]; exact Z.dp, by rw [f.2 25 (by decide)]; exact Z.dn, by rw [f.1 146 (by decide)]; exact Z.mw⟩
theorem M193 {g : KG} {h : KH} (K : MK g h) {t : Int → Int} {n p : Nat} {C : PR} {s : List Int} {dep dn o v : Int} (Z : MZ h t n p C s dep dn) (l : 0 ≤ C.ln ∧ C.ln ≤ 210) (n4 : C.A.nr ≤ 4) {d : Nat} {Q : Option KV → KG → KH → Prop} (hQ : ∀ h2 : KH, FM h h2 → MZ h2 t n p (C.emit o v) s dep dn → Q none g h2) : Cl (d + 1) 193 [xR 138, xI o, xI v] g h Q := by
  have I := Z.mi
  have y : ∀ (h1 : KH) i u, hset h1 139 i u 138 = h1 138 := fun h1 i u => hset_a _ _ _ (by decide)
  rw [E193, ga K.k0, ga K.k0, K.pat, I.ln, w32_id (x := 2 * C.ln) (by omega) (by omega), w32_id (x := 4064 + 2 * C.ln) (by omega) (by omega), ga ⟨K.kat, by decide, by omega, by rw [K.lat]; omega⟩, ga K.k0, ga K.k0, y, K.pat, I.ln, w32_id (x := 2 * C.ln) (by omega) (by omega), w32_id (x := 4064 + 2 * C.ln) (by omega) (by omega), w32_id (x := 4064 + 2 * C.ln + 1) (by omega) (by omega), ga ⟨K.kat, by decide, by omega, by rw [K.lat]; omega⟩, B193_34, ga K.k0, ga K.k0, y, y, I.ln, w32_id (by omega) (by omega)]
  have fa : ∀ a, a ≠ 138 → a ≠ 139 → hset (hset (hset h 139 (4064 + 2 * C.ln) o) 139 (4064 + 2 * C.ln + 1) v) 138 24 (C.ln + 1) a = h a := fun a a0 a1 => by rw [hset_a _ _ _ a0, hset_a _ _ _ a1, hset_a _ _ _ a1]
  have fj : ∀ j, j ≠ 24 → hset (hset (hset h 139 (4064 + 2 * C.ln) o) 139 (4064 + 2 * C.ln + 1) v) 138 24 (C.ln + 1) 138 j = h 138 j := fun j hj => by rw [hset_i _ _ hj, y, y]
  have f24 : hset (hset (hset h 139 (4064 + 2 * C.ln) o) 139 (4064 + 2 * C.ln + 1) v) 138 24 (C.ln + 1) 138 24 = C.ln + 1 := hset_e _ _ _ _
  have fc : ∀ j, j ≠ 4064 + 2 * C.ln → j ≠ 4064 + 2 * C.ln + 1 → hset (hset (hset h 139 (4064 + 2 * C.ln) o) 139 (4064 + 2 * C.ln + 1) v) 138 24 (C.ln + 1) 139 j = h 139 j := fun j a b => by rw [hset_a _ _ _ (by decide), hset_i _ _ b, hset_i _ _ a]
  have f0 : hset (hset (hset h 139 (4064 + 2 * C.ln) o) 139 (4064 + 2 * C.ln + 1) v) 138 24 (C.ln + 1) 139 (4064 + 2 * C.ln) = o := by rw [hset_a _ _ _ (by decide), hset_i _ _ (by omega), hset_e]
  have f1 : hset (hset (hset h 139 (4064 + 2 * C.ln) o) 139 (4064 + 2 * C.ln + 1) v) 138 24 (C.ln + 1) 139 (4064 + 2 * C.ln + 1) = v := by rw [hset_a _ _ _ (by decide), hset_e]
  generalize hset (hset (hset h 139 (4064 + 2 * C.ln) o) 139 (4064 + 2 * C.ln + 1) v) 138 24 (C.ln + 1) = h2 at *
  refine hQ h2 ⟨fun a x y z => fa a x y, fun j hj => fj j (by omega), fun j hj => fc j (by omega) (by omega)⟩ ⟨Z.mp.kp (fun j j0 j1 => fj j (by omega)) (fa 144 (by decide) (by decide)), ⟨?_, ?_, ?_, ?_, f24, by rw [fj 23 (by decide)]; exact I.ts⟩, by rw [fj 21 (by decide)]; exact Z.sl, by rw [fj 22 (by decide)]; exact Z.dp, by rw [fj 25 (by decide)]; exact Z.dn, by rw [fa 146 (by decide) (by decide)]; exact Z.mw⟩
  · rw [fc _ (by omega) (by omega)]; exact I.nr
  · intro i i0 i1
    have i1 : i ≤ C.A.nr := i1
    rw [fc _ (by omega) (by omega)]; exact I.rs i i0 i1
  · intro k k0 k1
    have k1 : k < C.ln + 1 := k1
    show _ = if k = C.ln then o else C.A.op k
    by_cases e : k = C.ln
    · rw [if_pos e, e, f0]
    · rw [if_neg e, fc _ (by omega) (by omega)]; exact I.op k k0 (by omega)
  · intro k k0 k1
    have k1 : k < C.ln + 1 := k1
    show _ = if k = C.ln then v else C.A.nm k
    by_cases e : k = C.ln
    · rw [if_pos e, e, f1]
    · rw [if_neg e, fc _ (by omega) (by omega)]; exact I.nm k k0 (by omega)
def emL : List Int → PR → PR
  | [], C => C
  | x :: l, C => emL l (C.emit x 0)
/-- how many of them are nots -/
def n3L : List Int → Int
  | [] => 0
  | x :: l => (if x = 3 then 1 else 0) + n3L l
theorem M194 {g : KG} {t : Int → Int} {n p : Nat} {s : List Int} {dn least : Int} (hs : ∀ x l, s = x :: l → x < least) {d : Nat} {Q : Option KV → KG → KH → Prop} {h0 : KH} (K0 : MK g h0) : ∀ (q : List Int) (C : PR) (dep : Int) (h : KH), (∀ x, x ∈ q → least ≤ x) → FM h0 h → MZ h t n p C (q ++ s) dep dn → 0 ≤ C.ln → C.ln + (q.length : Int) ≤ 210 → C.A.nr ≤ 4 → q.length + s.length ≤ 60 → -100 ≤ dep - (q.length : Int) → dep ≤ 100 → (∀ h2 : KH, FM h0 h2 → MZ h2 t n p (emL q C) s (dep - n3L q) dn → Q none g h2) → Rn (d + 1) 194 0 [xR 138, xI least] [] g h Q := by
  intro q
  induction q with
  | nil =>
    intro C dep h hq F Z l0 l1 n4 len d1 d2 z
    have K := F.mk K0
    have fin : Rn (d + 1) 194 76 [xR 138, xI least] [] g h Q := by
      rw [B194_76]
      exact z h F (by
        have e : dep - n3L [] = dep := by show dep - 0 = dep; omega
        rw [e]; exact Z)
    rw [B194_0, ga K.k0, Z.sl]
    cases s with
    | nil =>
      rw [if_pos (by decide)]
      exact fin
    | cons x l =>
      have c : (([] ++ x :: l : List Int).length : Int) = (l.length : Int) + 1 := by rw [List.nil_append, List.length_cons]; omega
      have len : 0 + (l.length + 1) ≤ 60 := len
      have m := Z.mw.1
      rw [c, if_neg (by omega), ga K.k0, ga K.k0, K.p20, w32_id (by omega) (by omega), show (l.length : Int) + 1 - 1 = l.length by omega, ga ⟨K.k146, by omega, by rw [K.l146]; omega⟩, m, if_pos (hs x l rfl)]
      exact fin
  | cons x q ih =>
    intro C dep h hq F Z l0 l1 n4 len d1 d2 z
    have K := F.mk K0
    have xl := hq x (List.mem_cons_self)
    have c : ((x :: q ++ s : List Int).length : Int) = ((q ++ s).length : Int) + 1 := by rw [List.cons_append, List.length_cons]; omega
    have c2 : (q ++ s).length = q.length + s.length := List.length_append
    have c3 : (x :: q).length = q.length + 1 := List.length_cons
    have m := Z.mw.1
    rw [c3] at len l1 d1
    rw [B194_0, ga K.k0, Z.sl, c, if_neg (by omega), ga K.k0, ga K.k0, K.p20, w32_id (by omega) (by omega), show ((q ++ s).length : Int) + 1 - 1 = ((q ++ s).length : Int) by omega, ga ⟨K.k146, by omega, by rw [K.l146]; omega⟩]
    have m' : h 146 ((q ++ s).length : Int) = x := m
    rw [m', if_neg (by omega), ga K.k0, ga K.k0, ga K.k0, ga K.k0, ga K.k0]
    have jA : ∀ j, j ≠ 21 → hset h 138 21 ((q ++ s).length : Int) 138 j = h 138 j := fun j hj => hset_i _ _ hj
    have fA : ∀ a, a ≠ 138 → hset h 138 21 ((q ++ s).length : Int) a = h a := fun a ha => hset_a _ _ _ ha
    have vA : hset h 138 21 ((q ++ s).length : Int) 138 21 = ((q ++ s).length : Int) := hset_e _ _ _ _
    have FA : FM h0 (hset h 138 21 ((q ++ s).length : Int)) := F.f138 (by decide)
    generalize hset h 138 21 ((q ++ s).length : Int) = hA at *
    have KA := FA.mk K0
    have mA : hA 146 ((q ++ s).length : Int) = x := by rw [fA 146 (by decide)]; exact m'
    have dA : hA 138 22 = dep := by rw [jA 22 (by decide)]; exact Z.dp
    rw [KA.p20, vA, ga ⟨K.k146, by omega, by rw [K.l146]; omega⟩, mA, dA]
    have go : ∀ u : Int, u = (if x = 3 then 1 else 0) → Rn (d + 1) 194 55 [xR 138, xI least] [xI u, xI dep, xR 138] g hA Q := by
      intro u hu
      have u2 : 0 ≤ u ∧ u ≤ 1 := by
        rw [hu]
        split <;> decide
      rw [B194_55, ga K.k0, ga K.k0, ga K.k0, w32_id (by omega) (by omega)]
      have jB : ∀ j, j ≠ 22 → hset hA 138 22 (dep - u) 138 j = hA 138 j := fun j hj => hset_i _ _ hj
      have fB : ∀ a, a ≠ 138 → hset hA 138 22 (dep - u) a = hA a := fun a ha => hset_a _ _ _ ha
      have vB : hset hA 138 22 (dep - u) 138 22 = dep - u := hset_e _ _ _ _
      have FB : FM h0 (hset hA 138 22 (dep - u)) := FA.f138 (by decide)
      generalize hset hA 138 22 (dep - u) = hB at *
      have KB := FB.mk K0
      have mB : hB 146 ((q ++ s).length : Int) = x := by rw [fB 146 (by decide)]; exact mA
      have sB : hB 138 21 = ((q ++ s).length : Int) := by rw [jB 21 (by decide)]; exact vA
      rw [KB.p20, sB, ga ⟨K.k146, by omega, by rw [K.l146]; omega⟩, mB, ga K.k0]
      have ZB : MZ hB t n p C (q ++ s) (dep - u) dn := ⟨Z.mp.kp (fun j j0 j1 => by rw [jB j (by omega), jA j (by omega)]) (by rw [fB 144 (by decide), fA 144 (by decide)]), Z.mi.kp (by rw [fB 139 (by decide), fA 139 (by decide)]) (by rw [jB 23 (by decide), jA 23 (by decide)]) (by rw [jB 24 (by decide), jA 24 (by decide)]), sB, vB, by rw [jB 25 (by decide), jA 25 (by decide)]; exact Z.dn, by rw [fB 146 (by decide), fA 146 (by decide)]; exact Z.mw.2⟩
      refine M193 KB ZB (by omega) n4 (fun hC FC ZC => ?_)
      rw [o0, List.nil_append, B194_73]
      refine ih (C.emit x 0) (dep - u) hC (fun y hy => hq y (List.mem_cons_of_mem _ hy)) (FB.tr FC) ZC (by show 0 ≤ C.ln + 1; omega) (by show C.ln + 1 + (q.length : Int) ≤ 210; omega) n4 (by omega) (by omega) (by omega) (fun h2 F2 Z2 => ?_)
      refine z h2 F2 ?_
      have e : dep - n3L (x :: q) = dep - u - n3L q := by
        show dep - ((if x = 3 then 1 else 0) + n3L q) = _
        rw [← hu]; omega
      rw [e]; exact Z2
    by_cases x3 : x = 3
    · rw [if_neg (fun y => y x3)]
      exact go 1 (by rw [if_pos x3])
    · rw [if_pos x3]
      exact go 0 (by rw [if_neg x3])
theorem S194 {g : KG} {h : KH} (K : MK g h) {t : Int → Int} {n p : Nat} {s : List Int} {dep dn least : Int} {q : List Int} {C : PR} (Z : MZ h t n p C (q ++ s) dep dn) (hq : ∀ x, x ∈ q → least ≤ x) (hs : ∀ x l, s = x :: l → x < least) (l0 : 0 ≤ C.ln) (l1 : C.ln + (q.length : Int) ≤ 210) (n4 : C.A.nr ≤ 4) (len : q.length + s.length ≤ 60) (hd : 0 ≤ dep ∧ dep ≤ 20) {d : Nat} {Q : Option KV → KG → KH → Prop} (hQ : ∀ h2 : KH, FM h h2 → MZ h2 t n p (emL q C) s (dep - n3L q) dn → Q none g h2) : Cl (d + 2) 194 [xR 138, xI least] g h Q := by
  rw [E194]
  exact M194 hs K q C dep h hq (FM.rfl_ h) Z l0 l1 n4 len (by omega) (by omega) hQ
