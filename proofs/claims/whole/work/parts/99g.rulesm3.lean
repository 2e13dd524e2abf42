/-! terms from tests -/
theorem ltm {g : KG} {t : Int → Int} {n lv : Nat} (n3 : n ≤ 300) (l8 : lv ≤ 8) (H : LT g t n lv) : LTm g t n lv := by
  intro d s h0 h C p Q K0 F Z hs O l len hf hl
  have hF := GF.test (t := t) (n := n) lv
  have pn := Z.mp.mu.pn
  have lp : ∀ (k : Nat) (C1 : PR) (p1 : Nat) (C' : PR) (q : List Int) (h1 : KH), n < p1 + k → GR n C p C1 p1 → emL q C' = C1 → (∀ x, x ∈ q → 2 ≤ x ∧ x < 3) → q.length ≤ 1 → 0 ≤ C'.ln → FM h0 h1 → MZ h1 t n p1 C' (q ++ s) (8 - (lv : Int)) 1 → (∀ (k2 pl : Int) (h2 : KH), sTermR t n (sTest t n lv) k C1 p1 = .inr (k2, pl) → FM h0 h2 → MF h2 k2 pl → 0 < k2 → Q (some (xI 0)) g h2) → (∀ (C2 : PR) (p2 : Nat) (C' : PR) (q : List Int) (h2 : KH), sTermR t n (sTest t n lv) k C1 p1 = .inl (C2, p2) → FM h0 h2 → (∀ x, x ∈ q → 2 ≤ x ∧ x < 3) → emL q C' = C2 → q.length ≤ 1 → 0 ≤ C'.ln → kyr (wdv t n p2) ≠ 2 → MZ h2 t n p2 C' (q ++ s) (8 - (lv : Int)) 1 → Rn (d + 6) 197 55 [xR 138, xI 1] [] g h2 Q) → Rn (d + 6) 197 55 [xR 138, xI 1] [] g h1 Q := by
    intro k
    induction k with
    | zero =>
      intro C1 p1 C' q h1 hk g1
      have := g1.le
      omega
    | succ k ih =>
      intro C1 p1 C' q h1 hk g1 eq hq q1 l0 F1 Z1 hf hl
      have e1 := emL_ln q C'
      have e2 := emL_nr q C'
      have gl := g1.ln
      have gle := g1.le
      have on := g1.ok.nr
      rw [eq] at e1 e2
      by_cases y : kyr (wdv t n p1) = 2
      · have wl := wlen (kyr_w (w := wdv t n p1) (by omega))
        have e : sTermR t n (sTest t n lv) (k + 1) C1 p1 = match sTest t n lv C1 (nxt t n p1) with
            | .inr f => .inr f
            | .inl (C2, p2) => sTermR t n (sTest t n lv) k (C2.emit 2 0) p2 := by
          rw [sTermR, if_pos y]
          rfl
        refine LJ12 K0 F1 (Or.inr rfl) Z1 y hq hs l0 (by omega) (by omega) (by omega) (by omega) (fun h2 F2 Z2 => ?_)
        rw [eq] at Z2
        refine H d 0 (2 :: s) h0 h2 C1 (nxt t n p1) Q K0 F2 Z2 (fun x l e => by have := (List.cons.inj e).1; omega) g1.ok (by omega) (by rw [List.length_cons]; omega) (fun k2 pl h3 e3 F3 X3 k0 => ?_) (fun C3 p3 h3 e3 F3 Z3 => ?_)
        · rw [nts_0] at e3
          rw [e3] at e
          exact hf k2 pl h3 e F3 X3 k0
        · rw [nts_0] at e3
          rw [e3] at e
          rw [show 8 - (lv : Int) - ((0 : Nat) : Int) = 8 - (lv : Int) by omega] at Z3
          have g3 := GR.step hF O.dn.1 (o := 2) (by decide) (by omega) e3 g1
          have g4 := hF _ _ _ _ e3 (nxt_r t (n := n) gle).2.1 g1.ok
          have lt := g4.lt
          have ge := g3.ln
          have o3 := g4.ok.l0
          exact ih (C3.emit 2 0) p3 C3 [2] h3 (by omega) g3 rfl (fun x hx => by have := List.mem_singleton.1 hx; omega) (by decide) o3 F3 Z3 (fun k2 pl h4 e4 => hf k2 pl h4 (by rw [e]; exact e4)) (fun C4 p4 C5 q4 h4 e4 => hl C4 p4 C5 q4 h4 (by rw [e]; exact e4))
      · have e : sTermR t n (sTest t n lv) (k + 1) C1 p1 = .inl (C1, p1) := by rw [sTermR, if_neg y]
        exact hl C1 p1 C' q h1 e F1 hq eq q1 l0 y Z1
  refine H d 0 s h0 h C p Q K0 F Z (fun x l e => by have := hs x l e; omega) O (by omega) (by omega) (fun k2 pl h3 e3 F3 X3 k0 => ?_) (fun C1 p1 h1 e3 F1 Z1 => ?_)
  · rw [nts_0] at e3
    exact hf k2 pl h3 (by rw [sTerm, e3]) F3 X3 k0
  · rw [nts_0] at e3
    rw [show 8 - (lv : Int) - ((0 : Nat) : Int) = 8 - (lv : Int) by omega] at Z1
    have e : sTerm t n (sTest t n lv) C p = sTermR t n (sTest t n lv) 301 C1 p1 := by rw [sTerm, e3]
    have g1 := hF _ _ _ _ e3 pn O
    exact lp 301 C1 p1 C1 [] h1 (by omega) g1 rfl (fun x hx => absurd hx List.not_mem_nil) (by decide) g1.ok.l0 F1 Z1 (fun k2 pl h4 e4 => hf k2 pl h4 (by rw [e]; exact e4)) (fun C4 p4 C5 q4 h4 e4 => hl C4 p4 C5 q4 h4 (by rw [e]; exact e4))
theorem lts {g : KG} {t : Int → Int} {n lv : Nat} (n3 : n ≤ 300) (l8 : lv ≤ 8) (H : LTm g t n lv) : LTs g t n lv := by
  intro d s h0 h C p Q K0 F Z hs O l len hf hl
  have hF := GF.term (t := t) (GF.test (t := t) (n := n) lv)
  have pn := Z.mp.mu.pn
  have lp : ∀ (k : Nat) (C1 : PR) (p1 : Nat) (C' : PR) (q : List Int) (h1 : KH), n < p1 + k → GR n C p C1 p1 → emL q C' = C1 → (∀ x, x ∈ q → 1 ≤ x ∧ x < 3) → q.length ≤ 2 → 0 ≤ C'.ln → kyr (wdv t n p1) ≠ 2 → FM h0 h1 → MZ h1 t n p1 C' (q ++ s) (8 - (lv : Int)) 1 → (∀ (k2 pl : Int) (h2 : KH), sTermsR t n (sTest t n lv) k C1 p1 = .inr (k2, pl) → FM h0 h2 → MF h2 k2 pl → 0 < k2 → Q (some (xI 0)) g h2) → (∀ (C2 : PR) (p2 : Nat) (C' : PR) (q : List Int) (h2 : KH), sTermsR t n (sTest t n lv) k C1 p1 = .inl (C2, p2) → FM h0 h2 → (∀ x, x ∈ q → 1 ≤ x ∧ x < 3) → emL q C' = C2 → q.length ≤ 2 → 0 ≤ C'.ln → kyr (wdv t n p2) ≠ 1 → kyr (wdv t n p2) ≠ 2 → MZ h2 t n p2 C' (q ++ s) (8 - (lv : Int)) 1 → Rn (d + 6) 197 55 [xR 138, xI 1] [] g h2 Q) → Rn (d + 6) 197 55 [xR 138, xI 1] [] g h1 Q := by
    intro k
    induction k with
    | zero =>
      intro C1 p1 C' q h1 hk g1
      have := g1.le
      omega
    | succ k ih =>
      intro C1 p1 C' q h1 hk g1 eq hq q1 l0 y2 F1 Z1 hf hl
      have e1 := emL_ln q C'
      have e2 := emL_nr q C'
      have gl := g1.ln
      have gle := g1.le
      have on := g1.ok.nr
      rw [eq] at e1 e2
      by_cases y : kyr (wdv t n p1) = 1
      · have wl := wlen (kyr_w (w := wdv t n p1) (by omega))
        have e : sTermsR t n (sTest t n lv) (k + 1) C1 p1 = match sTerm t n (sTest t n lv) C1 (nxt t n p1) with
            | .inr f => .inr f
            | .inl (C2, p2) => sTermsR t n (sTest t n lv) k (C2.emit 1 0) p2 := by
          rw [sTermsR, if_pos y]
          rfl
        refine LJ12 K0 F1 (Or.inl rfl) Z1 y hq hs l0 (by omega) (by omega) (by omega) (by omega) (fun h2 F2 Z2 => ?_)
        rw [eq] at Z2
        refine H d (1 :: s) h0 h2 C1 (nxt t n p1) Q K0 F2 Z2 (fun x l e => by have := (List.cons.inj e).1; omega) g1.ok (by omega) (by rw [List.length_cons]; omega) (fun k2 pl h3 e3 F3 X3 k0 => ?_) (fun C3 p3 C4 q4 h3 e3 F3 hq4 eq4 ql4 l4 y4 Z3 => ?_)
        · rw [e3] at e
          exact hf k2 pl h3 e F3 X3 k0
        · rw [e3] at e
          have g3 := GR.step hF O.dn.1 (o := 1) (by decide) (by omega) e3 g1
          have g4 := hF _ _ _ _ e3 (nxt_r t (n := n) gle).2.1 g1.ok
          have lt := g4.lt
          have ge := g3.ln
          have ea : q4 ++ 1 :: s = (q4 ++ [1]) ++ s := by rw [List.append_assoc]; rfl
          rw [ea] at Z3
          exact ih (C3.emit 1 0) p3 C4 (q4 ++ [1]) h3 (by omega) g3 (by rw [emL_a, eq4]) (fun x hx => by
            rcases List.mem_append.1 hx with z | z
            · have := hq4 x z; omega
            · have := List.mem_singleton.1 z; omega) (by rw [List.length_append, List.length_singleton]; omega) l4 y4 F3 Z3 (fun k2 pl h4 e4 => hf k2 pl h4 (by rw [e]; exact e4)) (fun C4 p4 C5 q4 h4 e4 => hl C4 p4 C5 q4 h4 (by rw [e]; exact e4))
      · have e : sTermsR t n (sTest t n lv) (k + 1) C1 p1 = .inl (C1, p1) := by rw [sTermsR, if_neg y]
        exact hl C1 p1 C' q h1 e F1 hq eq q1 l0 y y2 Z1
  refine H d s h0 h C p Q K0 F Z (fun x l e => by have := hs x l e; omega) O (by omega) (by omega) (fun k2 pl h3 e3 F3 X3 k0 => ?_) (fun C1 p1 C4 q4 h1 e3 F1 hq4 eq4 ql4 l4 y4 Z1 => ?_)
  · exact hf k2 pl h3 (by rw [sTerms, e3]) F3 X3 k0
  · have e : sTerms t n (sTest t n lv) C p = sTermsR t n (sTest t n lv) 301 C1 p1 := by rw [sTerms, e3]
    have g1 := hF _ _ _ _ e3 pn O
    exact lp 301 C1 p1 C4 q4 h1 (by omega) g1 eq4 (fun x hx => by have := hq4 x hx; omega) (by omega) l4 y4 F1 Z1 (fun k2 pl h4 e4 => hf k2 pl h4 (by rw [e]; exact e4)) (fun C4 p4 C5 q4 h4 e4 => hl C4 p4 C5 q4 h4 (by rw [e]; exact e4))
theorem lt {g : KG} {t : Int → Int} {n : Nat} (n3 : n ≤ 300) : ∀ lv : Nat, lv ≤ 8 → LT g t n lv := by
  intro lv
  induction lv with
  | zero =>
    intro l8 d i s h0 h C p Q K0 F Z hs O l len hf hl
    have K := F.mk K0
    have pn := Z.mp.mu.pn
    have ky := kyr_r (wdv t n p)
    rw [B197_55, if_neg (by decide), ga K.k0, Z.dn, if_pos rfl, ga K.k0, E195, ga K.k0]
    refine R178 K Z.mp ?_
    rw [o1, List.cons_append, List.nil_append, B195_6, ga K.k0]
    refine M177 K Z.mp ?_
    rw [o1, List.cons_append, List.nil_append, B195_13]
    have five : ∀ a2 : Int, ¬ (¬ sgnD t n p 40 ∧ kyr (wdv t n p) < 3) → Rn (d + 5) 195 29 [xR 138, xI (kyr (wdv t n p)), xI a2, xU] [] g h (fun r g1 h1 => Rn (d + 6) 197 77 [xR 138, xI 1] (r.toList ++ []) g1 h1 Q) := by
      intro a2 c
      rw [B195_29, ga K.k0, Z.dp, if_neg (by omega), ga K.k0]
      refine M179 K Z.mp (by decide) (fun h2 f2 X => ?_)
      have F2 := F.tok f2
      have kp := flt_p (t := t) (n := n) (p := p) (k := 5) (by decide)
      rw [o1, List.cons_append, List.nil_append, B195_43, ga (by decide), o1, List.cons_append, List.nil_append, B197_77]
      exact LE0 K0 F2 X kp (hf _ _ h2 (nts_r (by unfold sTest; exact if_neg c)) F2 X kp)
    by_cases y : sgnD t n p 40
    · rw [bzt y, if_pos (by decide)]
      exact five _ (fun z => z.1 y)
    rw [bzf y, if_neg (fun z => z rfl)]
    by_cases c : kyr (wdv t n p) < 3
    · rw [if_neg (by omega), ga K.k0]
      refine M179 K Z.mp (by decide) (fun h2 f2 X => ?_)
      have F2 := F.tok f2
      have kp := flt_p (t := t) (n := n) (p := p) (k := 2) (by decide)
      rw [o1, List.cons_append, List.nil_append, B195_28, ga (by decide), o1, List.cons_append, List.nil_append, B197_77]
      exact LE0 K0 F2 X kp (hf _ _ h2 (nts_r (by unfold sTest; exact if_pos ⟨y, c⟩)) F2 X kp)
    · rw [if_pos (by omega)]
      exact five _ (fun z => c z.2)
  | succ lv ih =>
    intro l8 d i s h0 h C p Q K0 F Z hs O l len hf hl
    have H := ih (by omega)
    have HS := lts n3 (by omega) (ltm n3 (by omega) H)
    have K := F.mk K0
    have pn := Z.mp.mu.pn
    have ky := kyr_r (wdv t n p)
    have l0 := O.l0
    have c0 : (List.replicate i (3 : Int) ++ s).length = i + s.length := by rw [List.length_append, List.length_replicate]
    have e8 : 8 - ((lv + 1 : Nat) : Int) + 1 = 8 - (lv : Int) := by omega
    have ed := Z.dp
    rw [B197_55, if_neg (by decide), ga K.k0, Z.dn, if_pos rfl, ga K.k0, E195, ga K.k0]
    refine R178 K Z.mp ?_
    rw [o1, List.cons_append, List.nil_append, B195_6, ga K.k0]
    refine M177 K Z.mp ?_
    rw [o1, List.cons_append, List.nil_append, B195_13]
    by_cases y : sgnD t n p 40
    · have y3 : kyr (wdv t n p) ≠ 3 := by
        have z1 : kd t n p = 3 := y.1
        have z2 : wdv t n p = 0 := by unfold wdv; rw [if_neg (fun x => by have := x.1; omega)]
        rw [z2]; decide
      rw [bzt y, if_pos (by decide), B195_29, ga K.k0, ed, if_pos (by omega), if_pos (by decide), B195_53, ga K.k0, ga K.k0, if_neg (by decide), Z.sl, K.p20]
      refine LPush K0 F Z (by omega) (by omega) (fun h1 F1 Z1 => ?_)
      rw [e8] at Z1
      have nr := nxt_r t pn
      refine HS d (0 :: (List.replicate i 3 ++ s)) h0 h1 C (nxt t n p) Q K0 F1 Z1 (fun x l e => by have := (List.cons.inj e).1; omega) O (by omega) (by rw [List.length_cons]; omega) (fun k2 pl h3 e3 F3 X3 k0 => ?_) (fun C3 p3 C4 q4 h3 e3 F3 hq4 eq4 ql4 l4 y1 y2 Z3 => ?_)
      · exact hf k2 pl h3 (nts_r (by rw [sTest, if_neg y3, if_pos y, e3])) F3 X3 k0
      · have gr := (GF.test (t := t) lv).terms _ _ _ _ e3 nr.2.1 O
        have gl := gr.ln
        have gle := gr.le
        have on := gr.ok.nr
        have el := emL_ln q4 C4
        have en := emL_nr q4 C4
        rw [eq4] at el en
        refine LJ3 K0 F3 Z3 y1 y2 hq4 (fun x l e => by have := (List.cons.inj e).1; omega) l4 (by omega) (by omega) (by rw [List.length_cons]; omega) (by omega) (fun z h4 F4 Z4 => ?_) (fun y41 x i2 s2 es h2s => ?_) (fun _ => ⟨0, i, s, rfl, hs⟩)
        · rw [eq4] at Z4
          have K4 := F4.mk K0
          have n41 : ¬ sgnD t n p3 41 := fun w => z ⟨w, fun e => by cases e⟩
          have kp := flt_p (t := t) (n := n) (p := p3) (k := 2) (by decide)
          rw [B197_55, if_pos rfl, ga K.k0, Z4.mp.fk, if_pos (by decide), ga K.k0, Z4.sl, List.length_cons, if_neg (by omega), ga K.k0]
          refine M179 K4 Z4.mp (by decide) (fun h5 f5 X => ?_)
          have F5 := F4.tok f5
          rw [o1, List.cons_append, List.nil_append, B197_102, ga (by decide)]
          exact hf _ _ h5 (nts_r (by rw [sTest, if_neg y3, if_pos y, e3]; exact if_neg n41)) F5 X kp
        · have e1 := (List.cons.inj es).2
          refine ⟨by omega, ?_⟩
          -- the stack's nots are those that were put
          have ii : i2 = i ∧ s2 = s := by
            clear es
            have aux : ∀ (a b : Nat) (u v : List Int), (∀ x l, u = x :: l → x < 3) → (∀ x l, v = x :: l → x < 3) → List.replicate a (3 : Int) ++ u = List.replicate b 3 ++ v → a = b ∧ u = v := by
              intro a
              induction a with
              | zero =>
                intro b u v hu hv e
                match b with
                | 0 => exact ⟨rfl, e⟩
                | b + 1 =>
                  rw [List.replicate_zero, List.nil_append, List.replicate_succ, List.cons_append] at e
                  exact absurd (hu 3 (List.replicate b 3 ++ v) e) (by decide)
              | succ a iha =>
                intro b u v hu hv e
                match b with
                | 0 =>
                  rw [List.replicate_zero, List.nil_append, List.replicate_succ, List.cons_append] at e
                  exact absurd (hv 3 (List.replicate a 3 ++ u) e.symm) (by decide)
                | b + 1 =>
                  have e2 := (List.cons.inj e).2
                  have := iha b u v hu hv e2
                  exact ⟨by omega, this.2⟩
            have := aux i i2 s s2 hs h2s e1
            exact ⟨this.1.symm, this.2.symm⟩
          refine ⟨by omega, fun h4 F4 Z4 => ?_⟩
          rw [eq4, ii.1, ii.2] at Z4
          refine hl (ntsP i C3) (nxt t n p3) h4 (nts_l (by rw [sTest, if_neg y3, if_pos y, e3]; exact if_pos y41)) F4 ?_
          rw [show 8 - ((lv + 1 : Nat) : Int) - (i : Int) = 8 - (lv : Int) - 1 - (i : Int) by omega]
          exact Z4
    rw [bzf y, if_neg (fun z => z rfl)]
    by_cases c : kyr (wdv t n p) < 3
    · rw [if_neg (by omega), ga K.k0]
      refine M179 K Z.mp (by decide) (fun h2 f2 X => ?_)
      have F2 := F.tok f2
      have kp := flt_p (t := t) (n := n) (p := p) (k := 2) (by decide)
      rw [o1, List.cons_append, List.nil_append, B195_28, ga (by decide), o1, List.cons_append, List.nil_append, B197_77]
      exact LE0 K0 F2 X kp (hf _ _ h2 (nts_r (by rw [sTest, if_neg (by omega), if_neg y, if_pos c])) F2 X kp)
    have wl := wlen (kyr_w (w := wdv t n p) (by omega))
    rw [if_pos (by omega), B195_29, ga K.k0, ed, if_pos (by omega), if_neg (fun z => z rfl)]
    by_cases y3 : kyr (wdv t n p) = 3
    · rw [if_neg (fun z => z y3), B195_53, ga K.k0, ga K.k0, if_pos rfl, Z.sl, K.p20]
      refine LPush K0 F Z (by omega) (by omega) (fun h1 F1 Z1 => ?_)
      rw [e8] at Z1
      refine H d (i + 1) s h0 h1 C (nxt t n p) Q K0 F1 Z1 hs O (by omega) (by omega) (fun k2 pl h3 e3 F3 X3 k0 => hf k2 pl h3 (by rw [nts_s y3]; exact e3) F3 X3 k0) (fun C3 p3 h3 e3 F3 Z3 => hl C3 p3 h3 (by rw [nts_s y3]; exact e3) F3 (by
        rw [show 8 - ((lv + 1 : Nat) : Int) - (i : Int) = 8 - (lv : Int) - ((i + 1 : Nat) : Int) by omega]
        exact Z3))
    have es : sTest t n (lv + 1) C p = if 40 ≤ C.ts then .inr (flt t n p 6, p)
        else if kyr (wdv t n p) = 10 then .inl (C.test.emit 10 0, nxt t n p)
        else if kd t n (nxt t n p) ≠ 2 then .inr (flt t n (nxt t n p) 2, nxt t n p)
        else if ¬ (0 ≤ nmv t n (nxt t n p) ∧ nmv t n (nxt t n p) ≤ hiR (kyr (wdv t n p))) then .inr (flt t n (nxt t n p) 4, nxt t n p)
        else .inl (C.test.emit (kyr (wdv t n p)) (nmv t n (nxt t n p)), nxt t n (nxt t n p)) := by
      rw [sTest, if_neg y3, if_neg y, if_neg c]
    have t0 := O.t0
    rw [if_pos y3, ga K.k0, Z.mi.ts]
    by_cases c4 : C.ts = 40
    · rw [if_pos (by omega)] at es
      rw [if_neg (fun z => z c4), ga K.k0]
      refine M179 K Z.mp (by decide) (fun h2 f2 X => ?_)
      have F2 := F.tok f2
      have kp := flt_p (t := t) (n := n) (p := p) (k := 6) (by decide)
      rw [o1, List.cons_append, List.nil_append, B195_112, ga (by decide), o1, List.cons_append, List.nil_append, B197_77]
      exact LE0 K0 F2 X kp (hf _ _ h2 (nts_r es) F2 X kp)
    rw [if_neg (by omega)] at es
    have O1 := O.test (by omega)
    rw [if_pos c4, ga K.k0, ga K.k0, ga K.k0, w32_id (by omega) (by omega)]
    have fj : ∀ j, j ≠ 23 → hset h 138 23 (C.ts + 1) 138 j = h 138 j := fun j hj => hset_i _ _ hj
    have fa : ∀ a, a ≠ 138 → hset h 138 23 (C.ts + 1) a = h a := fun a ha => hset_a _ _ _ ha
    have f23 : hset h 138 23 (C.ts + 1) 138 23 = C.ts + 1 := hset_e _ _ _ _
    have F1 : FM h0 (hset h 138 23 (C.ts + 1)) := F.f138 (by decide)
    generalize hset h 138 23 (C.ts + 1) = h1 at *
    have K1 := F1.mk K0
    have I := Z.mi
    have Z1 : MZ h1 t n p C.test (List.replicate i 3 ++ s) (8 - ((lv + 1 : Nat) : Int)) 0 := ⟨Z.mp.kp (fun j j0 j1 => fj j (by omega)) (fa 144 (by decide)), ⟨by rw [fa 139 (by decide)]; exact I.nr, by rw [fa 139 (by decide)]; exact I.rs, by rw [fa 139 (by decide)]; exact I.op, by rw [fa 139 (by decide)]; exact I.nm, by rw [fj 24 (by decide)]; exact I.ln, f23⟩, by rw [fj 21 (by decide)]; exact Z.sl, by rw [fj 22 (by decide)]; exact Z.dp, by rw [fj 25 (by decide)]; exact Z.dn, by rw [fa 146 (by decide)]; exact Z.mw⟩
    have nr := nxt_r t pn
    refine M176 K1 Z1.mp (fun h2 f2 _ T2 => ?_)
    have F2 := F1.tok f2
    have Z2 := Z1.tok f2 T2
    have K2 := F2.mk K0
    have cl : C.test.ln = C.ln := rfl
    have cn : C.test.A.nr = C.A.nr := rfl
    have on := O.nr
    rw [o0, List.nil_append, B195_127]
    have add : ∀ (v : Int) (p3 : Nat) (h3 : KH), 0 ≤ v ∧ v ≤ 9999 → sTest t n (lv + 1) C p = .inl (C.test.emit (kyr (wdv t n p)) v, p3) → FM h0 h3 → MZ h3 t n p3 C.test (List.replicate i 3 ++ s) (8 - ((lv + 1 : Nat) : Int)) 0 → Rn (d + 5) 195 193 [xR 138, xI (kyr (wdv t n p)), xI 0, xI v] [] g h3 (fun r g1 h1 => Rn (d + 6) 197 77 [xR 138, xI 1] (r.toList ++ []) g1 h1 Q) := by
      intro v p3 h3 hv es2 F3 Z3
      have K3 := F3.mk K0
      rw [B195_193, ga K.k0]
      refine M193 K3 Z3 (by omega) (by omega) (fun h4 F4 Z4 => ?_)
      have F4' := F3.tr F4
      have K4 := F4'.mk K0
      have cl4 : (C.test.emit (kyr (wdv t n p)) v).ln = C.ln + 1 := rfl
      have cn4 : (C.test.emit (kyr (wdv t n p)) v).A.nr = C.A.nr := rfl
      rw [o0, List.nil_append, B195_199, ga K.k0]
      refine S194 K4 Z4 (fun x hx => by rw [(List.mem_replicate.1 hx).2]; decide) hs (by omega) (by rw [List.length_replicate]; omega) (by omega) (by rw [List.length_replicate]; omega) (by omega) (fun h5 F5 Z5 => ?_)
      rw [n3L_n, emL_n C] at Z5
      have F5' := F4'.tr F5
      have fj5 : ∀ j, j ≠ 25 → hset h5 138 25 1 138 j = h5 138 j := fun j hj => hset_i _ _ hj
      have fa5 : ∀ a, a ≠ 138 → hset h5 138 25 1 a = h5 a := fun a ha => hset_a _ _ _ ha
      rw [o0, List.nil_append, B195_204, ga ⟨K.k0, by decide, by decide⟩, ga (by decide), o1, List.cons_append, List.nil_append, B197_77]
      exact hl _ p3 _ (nts_l es2) (F5'.f138 (by decide)) ⟨Z5.mp.kp (fun j j0 j1 => fj5 j (by omega)) (fa5 144 (by decide)), Z5.mi.kp (fa5 139 (by decide)) (fj5 23 (by decide)) (fj5 24 (by decide)), by rw [fj5 21 (by decide)]; exact Z5.sl, by rw [fj5 22 (by decide)]; exact Z5.dp, hset_e _ _ _ _, by rw [fa5 146 (by decide)]; exact Z5.mw⟩
    by_cases c5 : kyr (wdv t n p) = 10
    · rw [if_pos c5] at es
      rw [if_pos c5]
      exact add 0 _ h2 (by decide) (by rw [es, c5]) F2 Z2
    rw [if_neg c5] at es
    have x2 := mkd_2 t n (nxt t n p)
    rw [if_neg c5, ga K.k0, T2.mu.tk]
    by_cases z : kd t n (nxt t n p) = 2
    case neg =>
      rw [if_pos z] at es
      rw [if_neg (fun w => z (by rw [x2] at w; exact w)), ga K.k0]
      refine M179 K2 T2 (by decide) (fun h3 f3 X => ?_)
      have F3 := F2.tok f3
      have kp := flt_p (t := t) (n := n) (p := nxt t n p) (k := 2) (by decide)
      rw [o1, List.cons_append, List.nil_append, B195_148, ga (by decide), o1, List.cons_append, List.nil_append, B197_77]
      exact LE0 K0 F3 X kp (hf _ _ h3 (nts_r es) F3 X kp)
    rw [if_neg (fun w => w z)] at es
    have v := T2.mu.vl (Or.inl z)
    have nn := nmv_r z
    rw [if_pos (by rw [x2]; exact z)]
    have big : ¬ (nmv t n (nxt t n p) ≤ hiR (kyr (wdv t n p))) → Rn (d + 5) 195 178 [xR 138, xI (kyr (wdv t n p)), xI 0, xI 0] [] g h2 (fun r g1 h1 => Rn (d + 6) 197 77 [xR 138, xI 1] (r.toList ++ []) g1 h1 Q) := by
      intro b
      rw [if_pos (fun w => b w.2)] at es
      rw [B195_178, ga K.k0]
      refine M179 K2 T2 (by decide) (fun h3 f3 X => ?_)
      have F3 := F2.tok f3
      have kp := flt_p (t := t) (n := n) (p := nxt t n p) (k := 4) (by decide)
      rw [o1, List.cons_append, List.nil_append, B195_183, ga (by decide), o1, List.cons_append, List.nil_append, B197_77]
      exact LE0 K0 F3 X kp (hf _ _ h3 (nts_r es) F3 X kp)
    have ok : nmv t n (nxt t n p) ≤ hiR (kyr (wdv t n p)) → Rn (d + 5) 195 184 [xR 138, xI (kyr (wdv t n p)), xI 0, xI 0] [] g h2 (fun r g1 h1 => Rn (d + 6) 197 77 [xR 138, xI 1] (r.toList ++ []) g1 h1 Q) := by
      intro b
      rw [if_neg (fun w => w ⟨nn.1, b⟩)] at es
      rw [B195_184, ga K.k0, ga K.k0, v]
      refine M176 K2 T2 (fun h3 f3 _ T3 => ?_)
      rw [o0, List.nil_append]
      exact add _ _ h3 nn es (F2.tok f3) (Z2.tok f3 T3)
    have b164 : kyr (wdv t n p) ≠ 8 ∨ nmv t n (nxt t n p) ≤ 16 → Rn (d + 5) 195 164 [xR 138, xI (kyr (wdv t n p)), xI 0, xI 0] [] g h2 (fun r g1 h1 => Rn (d + 6) 197 77 [xR 138, xI 1] (r.toList ++ []) g1 h1 Q) := by
      intro b
      rw [B195_164]
      by_cases c9 : kyr (wdv t n p) = 9
      · have hi : hiR (kyr (wdv t n p)) = 2 := by rw [c9]; decide
        rw [if_neg (fun w => w c9), ga K.k0, v]
        by_cases b2 : nmv t n (nxt t n p) ≤ 2
        · rw [if_pos b2]; exact ok (by omega)
        · rw [if_neg b2]; exact big (by omega)
      · rw [if_pos c9]
        refine ok ?_
        unfold hiR
        by_cases c8 : kyr (wdv t n p) = 8
        · rw [if_pos c8]; omega
        · rw [if_neg c8, if_neg c9]; exact nn.2
    by_cases c8 : kyr (wdv t n p) = 8
    · have hi : hiR (kyr (wdv t n p)) = 16 := by rw [c8]; decide
      rw [if_neg (fun w => w c8), ga K.k0, v]
      by_cases b2 : 16 < nmv t n (nxt t n p)
      · rw [if_pos b2]; exact big (by omega)
      · rw [if_neg b2]; exact b164 (Or.inr (by omega))
    · rw [if_pos c8]
      exact b164 (Or.inl c8)
