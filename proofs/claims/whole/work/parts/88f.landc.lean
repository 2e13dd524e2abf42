/-! A LAND's text, on the class's side: the reader 4 and a land l -/
theorem sNum_b {t : Int → Int} {n p : Nat} {lo hi : Int} {K : Int → Nat → LRz} (h : kd t n p ≠ 2) : sNum t n p lo hi K = .inr (flt t n p 2, p) := by unfold sNum; rw [if_pos h]
theorem sNum_n {t : Int → Int} {n p : Nat} {lo hi : Int} {K : Int → Nat → LRz} (h : kd t n p = 2) (h2 : ¬ (lo ≤ nmv t n p ∧ nmv t n p ≤ hi)) : sNum t n p lo hi K = .inr (flt t n p 4, p) := by unfold sNum; rw [if_neg (fun z => z h), if_pos h2]
theorem sNum_y {t : Int → Int} {n p : Nat} {lo hi : Int} {K : Int → Nat → LRz} (h : kd t n p = 2) (h2 : lo ≤ nmv t n p ∧ nmv t n p ≤ hi) : sNum t n p lo hi K = K (nmv t n p) (nxt t n p) := by unfold sNum; rw [if_neg (fun z => z h), if_neg (fun z => z h2)]
theorem sEnd_y {t : Int → Int} {n p : Nat} {L : PL} (h : sgn t n p 59) : sEnd t n L p = .inl (L, nxt t n p) := by unfold sEnd; exact if_pos h
theorem sEnd_n {t : Int → Int} {n p : Nat} {L : PL} (h : ¬ sgn t n p 59) : sEnd t n L p = .inr (flt t n p 2, p) := by unfold sEnd; exact if_neg h
def TI (g : KG) (h : KH) (t : Int) (L : PL) (m : Int) : Prop := (TK g h t) ∧ (∀ q, 0 ≤ q → q < 6 → h (t + 1) q = L.A.gb m q) ∧ (∀ q, 0 ≤ q → q < 6 → h (t + 2) q = L.tq m q) ∧ (∀ q r a, inq L.A q → L.tq m q = 1 → 0 ≤ r → r < L.A.rows m q → 0 ≤ a → a < L.A.ch q → h (t + 3) (16 * q + 4 * r + a) = L.A.wt m q r a)
theorem TI.tk {g : KG} {h : KH} {t : Int} {L : PL} {m : Int} (z_ : TI g h t L m) : TK g h t := z_.1
theorem TI.b {g : KG} {h : KH} {t : Int} {L : PL} {m : Int} (z_ : TI g h t L m) : ∀ q, 0 ≤ q → q < 6 → h (t + 1) q = L.A.gb m q := z_.2.1
theorem TI.o {g : KG} {h : KH} {t : Int} {L : PL} {m : Int} (z_ : TI g h t L m) : ∀ q, 0 ≤ q → q < 6 → h (t + 2) q = L.tq m q := z_.2.2.1
theorem TI.w {g : KG} {h : KH} {t : Int} {L : PL} {m : Int} (z_ : TI g h t L m) : ∀ q r a, inq L.A q → L.tq m q = 1 → 0 ≤ r → r < L.A.rows m q → 0 ≤ a → a < L.A.ch q → h (t + 3) (16 * q + 4 * r + a) = L.A.wt m q r a := z_.2.2.2
def LI (g : KG) (h : KH) (l : Int) (L : PL) : Prop := (LK g h l) ∧ (h l 0 = L.A.nq) ∧ (h l 5 = L.A.nd) ∧ (h l 8 = L.A.wk) ∧ (h l 9 = L.A.ca) ∧ (h l 10 = L.A.cm) ∧ (∀ q, inq L.A q → h (l + 1) q = L.na q) ∧ (∀ q, inq L.A q → h (l + 2) q = L.A.ch q) ∧ (∀ i, 0 ≤ i → i < L.A.nd → h (l + 11) i = L.A.dx i) ∧ (∀ i, 0 ≤ i → i < L.A.nd → h (l + 12) i = L.A.dy i) ∧ (TI g h (l + 3) L 0) ∧ (TI g h (l + 7) L 1) ∧ (h 4 0 = 2) ∧ (h 4 1 = L.tw) ∧ (h 4 2 = L.tc)
theorem LI.lk {g : KG} {h : KH} {l : Int} {L : PL} (z_ : LI g h l L) : LK g h l := z_.1
theorem LI.nq {g : KG} {h : KH} {l : Int} {L : PL} (z_ : LI g h l L) : h l 0 = L.A.nq := z_.2.1
theorem LI.nd {g : KG} {h : KH} {l : Int} {L : PL} (z_ : LI g h l L) : h l 5 = L.A.nd := z_.2.2.1
theorem LI.wk {g : KG} {h : KH} {l : Int} {L : PL} (z_ : LI g h l L) : h l 8 = L.A.wk := z_.2.2.2.1
theorem LI.ca {g : KG} {h : KH} {l : Int} {L : PL} (z_ : LI g h l L) : h l 9 = L.A.ca := z_.2.2.2.2.1
theorem LI.cm {g : KG} {h : KH} {l : Int} {L : PL} (z_ : LI g h l L) : h l 10 = L.A.cm := z_.2.2.2.2.2.1
theorem LI.na {g : KG} {h : KH} {l : Int} {L : PL} (z_ : LI g h l L) : ∀ q, inq L.A q → h (l + 1) q = L.na q := z_.2.2.2.2.2.2.1
theorem LI.ch {g : KG} {h : KH} {l : Int} {L : PL} (z_ : LI g h l L) : ∀ q, inq L.A q → h (l + 2) q = L.A.ch q := z_.2.2.2.2.2.2.2.1
theorem LI.dx {g : KG} {h : KH} {l : Int} {L : PL} (z_ : LI g h l L) : ∀ i, 0 ≤ i → i < L.A.nd → h (l + 11) i = L.A.dx i := z_.2.2.2.2.2.2.2.2.1
theorem LI.dy {g : KG} {h : KH} {l : Int} {L : PL} (z_ : LI g h l L) : ∀ i, 0 ≤ i → i < L.A.nd → h (l + 12) i = L.A.dy i := z_.2.2.2.2.2.2.2.2.2.1
theorem LI.t0 {g : KG} {h : KH} {l : Int} {L : PL} (z_ : LI g h l L) : TI g h (l + 3) L 0 := z_.2.2.2.2.2.2.2.2.2.2.1
theorem LI.t1 {g : KG} {h : KH} {l : Int} {L : PL} (z_ : LI g h l L) : TI g h (l + 7) L 1 := z_.2.2.2.2.2.2.2.2.2.2.2.1
theorem LI.r0 {g : KG} {h : KH} {l : Int} {L : PL} (z_ : LI g h l L) : h 4 0 = 2 := z_.2.2.2.2.2.2.2.2.2.2.2.2.1
theorem LI.tw {g : KG} {h : KH} {l : Int} {L : PL} (z_ : LI g h l L) : h 4 1 = L.tw := z_.2.2.2.2.2.2.2.2.2.2.2.2.2.1
theorem LI.tc {g : KG} {h : KH} {l : Int} {L : PL} (z_ : LI g h l L) : h 4 2 = L.tc := z_.2.2.2.2.2.2.2.2.2.2.2.2.2.2
def LJ (g : KG) (h : KH) (l : Int) : Prop := (LK g h l) ∧ (0 ≤ h l 0 ∧ h l 0 ≤ 6) ∧ (∀ q, 0 ≤ q → q < h l 0 → 2 ≤ h (l + 2) q ∧ h (l + 2) q ≤ 4) ∧ (TK g h (l + 3)) ∧ (TK g h (l + 7)) ∧ (h 4 0 = 2)
theorem LJ.lk {g : KG} {h : KH} {l : Int} (z_ : LJ g h l) : LK g h l := z_.1
theorem LJ.nq {g : KG} {h : KH} {l : Int} (z_ : LJ g h l) : 0 ≤ h l 0 ∧ h l 0 ≤ 6 := z_.2.1
theorem LJ.ch {g : KG} {h : KH} {l : Int} (z_ : LJ g h l) : ∀ q, 0 ≤ q → q < h l 0 → 2 ≤ h (l + 2) q ∧ h (l + 2) q ≤ 4 := z_.2.2.1
theorem LJ.t0 {g : KG} {h : KH} {l : Int} (z_ : LJ g h l) : TK g h (l + 3) := z_.2.2.2.1
theorem LJ.t1 {g : KG} {h : KH} {l : Int} (z_ : LJ g h l) : TK g h (l + 7) := z_.2.2.2.2.1
theorem LJ.r0 {g : KG} {h : KH} {l : Int} (z_ : LJ g h l) : h 4 0 = 2 := z_.2.2.2.2.2
theorem LI.j {g : KG} {h : KH} {l : Int} {L : PL} (I : LI g h l L) (P : L.Ok) : LJ g h l :=
  ⟨I.lk, by rw [I.nq]; exact P.O.nq, fun q q0 q1 => by rw [I.nq] at q1; rw [I.ch q ⟨q0, q1⟩]; exact P.O.ch q ⟨q0, q1⟩, I.t0.tk, I.t1.tk, I.r0⟩
def FL (l : Int) (h h2 : KH) : Prop := ∀ a, a ≠ 2 → a ≠ 4 → (a < l ∨ l + 12 < a) → h2 a = h a
theorem FL.rfl_ (l : Int) (h : KH) : FL l h h := fun _ _ _ _ => rfl
theorem FL.tok {l : Int} {h h1 h2 : KH} (F : FL l h h1) (f : ∀ a, a ≠ 2 → h2 a = h1 a) : FL l h h2 := fun a a2 a4 al => by rw [f a a2, F a a2 a4 al]
theorem TI.keep {g : KG} {h h2 : KH} {t : Int} {L : PL} {m : Int} (T : TI g h t L m) (e : ∀ a, t ≤ a → a ≤ t + 3 → h2 a = h a) : TI g h2 t L m := by
  refine ⟨T.tk.keep e, ?_, ?_, ?_⟩
  · rw [e (t + 1) (by omega) (by omega)]; exact T.b
  · rw [e (t + 2) (by omega) (by omega)]; exact T.o
  · rw [e (t + 3) (by omega) (by omega)]; exact T.w
theorem LI.keep {g : KG} {h h2 : KH} {l : Int} {L : PL} (I : LI g h l L) (e : ∀ a, (a = 4 ∨ (l ≤ a ∧ a ≤ l + 12)) → h2 a = h a) : LI g h2 l L := by
  have e0 := e l (by omega)
  have e1 := e (l + 1) (by omega)
  have e2 := e (l + 2) (by omega)
  have e11 := e (l + 11) (by omega)
  have e12 := e (l + 12) (by omega)
  have e4 := e 4 (by omega)
  refine ⟨I.lk.keep (fun a h0 h1 => e a (by omega)), ?_, ?_, ?_, ?_, ?_, ?_, ?_, ?_, ?_, I.t0.keep (fun a h0 h1 => e a (by omega)), I.t1.keep (fun a h0 h1 => e a (by omega)), ?_, ?_, ?_⟩
  · rw [e0]; exact I.nq
  · rw [e0]; exact I.nd
  · rw [e0]; exact I.wk
  · rw [e0]; exact I.ca
  · rw [e0]; exact I.cm
  · rw [e1]; exact I.na
  · rw [e2]; exact I.ch
  · rw [e11]; exact I.dx
  · rw [e12]; exact I.dy
  · rw [e4]; exact I.r0
  · rw [e4]; exact I.tw
  · rw [e4]; exact I.tc
theorem LJ.keep {g : KG} {h h2 : KH} {l : Int} (I : LJ g h l) (e : ∀ a, (a = 4 ∨ (l ≤ a ∧ a ≤ l + 12)) → h2 a = h a) : LJ g h2 l := by
  have e0 := e l (by omega)
  have e2 := e (l + 2) (by omega)
  have e4 := e 4 (by omega)
  refine ⟨I.lk.keep (fun a h0 h1 => e a (by omega)), ?_, ?_, I.t0.keep (fun a h0 h1 => e a (by omega)), I.t1.keep (fun a h0 h1 => e a (by omega)), ?_⟩
  · rw [e0]; exact I.nq
  · rw [e0, e2]; exact I.ch
  · rw [e4]; exact I.r0
theorem LI.tok {g : KG} {h h2 : KH} {l : Int} {L : PL} (hl : l = 7 ∨ l = 39) (I : LI g h l L) (f : ∀ a, a ≠ 2 → h2 a = h a) : LI g h2 l L := I.keep (fun a ha => f a (by omega))
theorem LJ.tok {g : KG} {h h2 : KH} {l : Int} (hl : l = 7 ∨ l = 39) (I : LJ g h l) (f : ∀ a, a ≠ 2 → h2 a = h a) : LJ g h2 l := I.keep (fun a ha => f a (by omega))
/-- what a part leaves -/
def LPo (g : KG) (l : Int) (t : Int → Int) (n : Nat) (z : LRz) (h2 : KH) : Prop := match z with
  | .inr (k, pl) => LJ g h2 l ∧ KF h2 n k pl
  | .inl (L, p) => LI g h2 l L ∧ KP h2 t n p
theorem lp_r {g : KG} {l : Int} {t : Int → Int} {n : Nat} {k pl : Int} {h2 : KH} (J : LJ g h2 l) (F : KF h2 n k pl) : LPo g l t n (.inr (k, pl)) h2 := ⟨J, F⟩
theorem lp_l {g : KG} {l : Int} {t : Int → Int} {n p : Nat} {L : PL} {h2 : KH} (I : LI g h2 l L) (T : KP h2 t n p) : LPo g l t n (.inl (L, p)) h2 := ⟨I, T⟩
theorem S30 {w : Int} {d : Nat} {g : KG} {h : KH} {Q : Option KV → KG → KH → Prop} (hQ : Q (some (xI (bz (isnmD w)))) g h) : Cl (d + 1) 30 [xL w] g h Q := by
  have no : ¬ isnmD w → Rn d 30 66 [xL w, xU] [] g h Q := by
    intro z
    rw [bzf z] at hQ
    rw [B30_66, B30_67, ga (by decide)]
    exact hQ
  rw [E30]
  simp only [c64eq]
  by_cases h1 : w = 0
  · rw [if_pos h1]; exact no (fun z => z.1 h1)
  rw [if_neg h1]
  by_cases h2 : w = 6386539
  · rw [if_pos h2]; exact no (fun z => z.2.1 h2)
  rw [if_neg h2]
  by_cases h3 : w = 7102839
  · rw [if_pos h3]; exact no (fun z => z.2.2.1 h3)
  rw [if_neg h3]
  by_cases h4 : w = 1835626084
  · rw [if_pos h4]; exact no (fun z => z.2.2.2.1 h4)
  rw [if_neg h4]
  by_cases h5 : w = 25209
  · rw [if_pos h5]; exact no (fun z => z.2.2.2.2.1 h5)
  rw [if_neg h5]
  by_cases h6 : w = 1685024626
  · rw [if_pos h6]; exact no (fun z => z.2.2.2.2.2.1 h6)
  rw [if_neg h6]
  by_cases h7 : w = 2002873451
  · rw [if_pos h7]; exact no (fun z => z.2.2.2.2.2.2.1 h7)
  rw [if_neg h7]
  by_cases h8 : w = 426836649075
  · rw [if_pos h8]; exact no (fun z => z.2.2.2.2.2.2.2 h8)
  rw [if_neg h8, B30_67, ga (by decide)]
  rw [bzt ⟨h1, h2, h3, h4, h5, h6, h7, h8⟩] at hQ
  exact hQ
theorem S18 {g : KG} {h : KH} {l : Int} {L : PL} (lk : LK g h l) (nq : h l 0 = L.A.nq) (na : ∀ q, inq L.A q → h (l + 1) q = L.na q) (P : L.Ok) {w : Int} {d : Nat} {Q : Option KV → KG → KH → Prop} (hQ : Q (some (xI (fnd L.na w L.A.nq.toNat 0))) g h) : Cl (d + 1) 18 [xR l, xL w] g h Q := by
  have h6 := P.O.nq
  have lp : ∀ m i : Nat, i + m = L.A.nq.toNat → Q (some (xI (fnd L.na w m i))) g h → Rn d 18 2 [xR l, xL w, xU, xI (i : Int)] [] g h Q := by
    intro m
    induction m with
    | zero =>
      intro i hi hq
      rw [B18_2, ga lk.k0, nq, if_pos (by omega)]
      exact hq
    | succ m ih =>
      intro i hi hq
      have e1 : ((i : Int) + 1) = ((i + 1 : Nat) : Int) := by omega
      unfold fnd at hq
      rw [B18_2, ga lk.k0, nq, if_neg (by omega), ga lk.k0, lk.p1, ga ⟨lk.k1, by omega, by rw [lk.l1]; omega⟩, na i ⟨by omega, by omega⟩]
      simp only [c64eq, ne_eq]
      by_cases y : L.na i = w
      · rw [if_pos y] at hq
        rw [if_neg (fun z => z y)]
        exact hq
      · rw [if_neg y] at hq
        rw [if_pos y, w32_id (by omega) (by omega), e1]
        exact ih (i + 1) (by omega) hq
  rw [E18]
  exact lp L.A.nq.toNat 0 (by omega) hQ
theorem TI.addq {g : KG} {h : KH} {t : Int} {L : PL} {m w c : Int} (P : L.Ok) (hm : bit1 m) (c6 : L.A.nq < 6) (T : TI g h t L m) : TI g h t (L.addq w c) m := by
  have O := P.O
  have h6 := O.nq
  refine ⟨T.tk, fun q q0 q1 => ?_, T.o, fun q r a hq ht r0 r1 a0 a1 => ?_⟩
  · show _ = if q = L.A.nq then -1 else L.A.gb m q
    rw [T.b q q0 q1]
    split
    · rename_i e; exact (P.un m q hm (by omega) q1).1
    · rfl
  · have hn : q ≠ L.A.nq := by
      intro e
      have u := (P.un m q hm (by omega) (by omega)).2
      have ht : L.tq m q = 1 := ht
      omega
    have hi : inq L.A q := ⟨hq.1, by have : q < L.A.nq + 1 := hq.2; omega⟩
    have e1 : (L.addq w c).A.ch q = L.A.ch q := if_neg hn
    have e2 : (L.addq w c).A.wt m q r a = L.A.wt m q r a := if_neg hn
    have e3 : (L.addq w c).A.rows m q = L.A.rows m q := by
      have g1 : (L.addq w c).A.gb m q = L.A.gb m q := if_neg hn
      unfold St.rows
      rw [g1]
      rcases O.gb m q hm hi with z | z
      · rw [if_pos z, if_pos z]
      · rw [if_neg (by omega), if_neg (by omega)]
        exact if_neg (by have := hi.2; omega)
    rw [e2]
    rw [e3] at r1
    rw [e1] at a1
    exact T.w q r a hi ht r0 r1 a0 a1
theorem S27 {g : KG} (G : GT g) (k4 : gK g 4 = 4) {h : KH} {l : Int} (hl : l = 7 ∨ l = 39) {L : PL} (I : LI g h l L) (P : L.Ok) {t : Int → Int} {n p : Nat} (T : KP h t n p) {d : Nat} {Q : Option KV → KG → KH → Prop} (hQ : ∀ h2 : KH, FL l h h2 → LPo g l t n (sAsk t n L p) h2 → Q none g h2) : Cl (d + 4) 27 [xR 4, xR l] g h Q := by
  have h6 := P.O.nq
  unfold sAsk at hQ
  have b96 : ∀ (h1 : KH) (kk pl w c : Int), FL l h h1 → LJ g h1 l → KF h1 n kk pl → (∀ h2 : KH, FL l h h2 → LPo g l t n (.inr (kk, pl)) h2 → Q none g h2) → Rn (d + 3) 27 96 [xR 4, xR l, xL w, xU, xI c] [] g h1 Q := by
    intro h1 kk pl w c f1 J F q
    rw [B27_96, ga k4, J.r0, ga G.k2]
    refine F74 G F ?_
    rw [o1, List.cons_append, List.nil_append, B27_103, if_pos rfl, B27_137]
    exact q h1 f1 (lp_r J F)
  have b85 : ∀ (h1 : KH) (kk pl w c : Int), FL l h h1 → LJ g h1 l → KF h1 n kk pl → (∀ h2 : KH, FL l h h2 → LPo g l t n (.inr (kk, pl)) h2 → Q none g h2) → Rn (d + 3) 27 85 [xR 4, xR l, xL w, xU, xU] [xI c] g h1 Q := by
    intro h1 kk pl w c f1 J F q
    rw [B27_85, ga k4, J.r0, ga G.k2]
    refine F84 G F (fun h2 f2 F2 => ?_)
    rw [o0, List.nil_append]
    exact b96 h2 kk pl w c (f1.tok f2) (J.tok hl f2) F2 q
  have b69 : ∀ (h1 : KH) (kk pl w : Int), FL l h h1 → LJ g h1 l → KF h1 n kk pl → (∀ h2 : KH, FL l h h2 → LPo g l t n (.inr (kk, pl)) h2 → Q none g h2) → Rn (d + 3) 27 69 [xR 4, xR l, xL w, xU, xU] [] g h1 Q := by
    intro h1 kk pl w f1 J F q
    rw [B27_69, ga k4, J.r0, ga G.k2]
    refine F79 G F (fun h2 f2 F2 => ?_)
    have J2 := J.tok hl f2
    rw [o0, List.nil_append, B27_76, ga k4, J2.r0, ga G.k2]
    refine F83 G F2 (fun h3 v f3 F3 => ?_)
    rw [o1, List.cons_append, List.nil_append]
    exact b85 h3 kk pl w v ((f1.tok f2).tok f3) (J2.tok hl f3) F3 q
  rw [E27, ga I.lk.k0, I.nq]
  by_cases c6 : L.A.nq < 6
  · rw [if_neg (by omega)] at hQ
    rw [if_pos c6, ga k4, I.r0, ga G.k2]
    refine T79 G T (fun h1 f1 T1 => ?_)
    have I1 := I.tok hl f1
    have F1 := (FL.rfl_ l h).tok f1
    generalize nxt t n p = p1 at *
    rw [o0, List.nil_append, B27_26, ga k4, I1.r0, ga G.k2, T1.td.wd]
    generalize wdv t n p1 = w at *
    refine S30 ?_
    rw [o1, List.cons_append, List.nil_append, B27_38]
    by_cases c1 : isnmD w
    · rw [if_neg (fun z => z c1)] at hQ
      rw [bzt c1, if_pos (by decide), ga I1.lk.k0]
      refine S18 I1.lk I1.nq I1.na P ?_
      rw [o1, List.cons_append, List.nil_append, B27_57]
      by_cases c2 : fnd L.na w L.A.nq.toNat 0 = -1
      · rw [if_neg (fun z => z c2)] at hQ
        rw [if_pos c2, B27_69, ga k4, I1.r0, ga G.k2]
        refine T79 G T1 (fun h2 f2 T2 => ?_)
        have I2 := I1.tok hl f2
        have F2 := F1.tok f2
        generalize nxt t n p1 = p2 at *
        rw [o0, List.nil_append, B27_76, ga k4, I2.r0, ga G.k2]
        refine T83 G T2 (fun z h3 v f3 X => ?_) (fun z z2 h3 v f3 X => ?_) (fun z z2 h3 f3 T3 => ?_)
        · rw [sNum_b z] at hQ
          rw [o1, List.cons_append, List.nil_append]
          exact b85 h3 _ _ w v (F2.tok f3) ((I2.tok hl f3).j P) X hQ
        · rw [sNum_n z z2] at hQ
          rw [o1, List.cons_append, List.nil_append]
          exact b85 h3 _ _ w v (F2.tok f3) ((I2.tok hl f3).j P) X hQ
        · rw [sNum_y z z2] at hQ
          have I3 := I2.tok hl f3
          have F3 := F2.tok f3
          generalize nxt t n p2 = p3 at *
          generalize nmv t n p2 = c at *
          rw [o1, List.cons_append, List.nil_append, B27_85, ga k4, I3.r0, ga G.k2]
          refine T84 G T3 (fun y h4 f4 X => ?_) (fun y h4 f4 T4 => ?_)
          · rw [sEnd_n y] at hQ
            rw [o0, List.nil_append]
            exact b96 h4 _ _ w c (F3.tok f4) ((I3.tok hl f4).j P) X hQ
          · rw [sEnd_y y] at hQ
            have I4 := I3.tok hl f4
            have F4 := F3.tok f4
            rw [o0, List.nil_append, B27_96, ga k4, I4.r0, ga G.k2]
            refine T74 G T4 ?_
            have LK_ := I4.lk
            have x1 : ∀ v, (hset h4 (l + 1) L.A.nq v) l = h4 l := fun v => hset_a _ _ _ (by omega)
            have x2 : ∀ v u, (hset (hset h4 (l + 1) L.A.nq v) (l + 2) L.A.nq u) l = h4 l := fun v u => by rw [hset_a _ _ _ (by omega), x1]
            rw [o1, List.cons_append, List.nil_append, B27_103, if_neg (by decide), ga LK_.k0, ga LK_.k0, I4.lk.p1, I4.nq, ga ⟨LK_.k1, by omega, by rw [LK_.l1]; omega⟩, ga LK_.k0, ga LK_.k0, x1, I4.lk.p2, I4.nq, ga ⟨LK_.k2, by omega, by omega, by rw [LK_.l2]; omega⟩, ga LK_.k0, ga LK_.k0, x2, I4.nq, w32_id (by omega) (by omega), B27_137]
            generalize eH : hset (hset (hset h4 (l + 1) L.A.nq w) (l + 2) L.A.nq c) l 0 (L.A.nq + 1) = h5
            have kp : ∀ a, a ≠ l → a ≠ l + 1 → a ≠ l + 2 → h5 a = h4 a := fun a a0 a1 a2 => by rw [← eH, hset_a _ _ _ a0, hset_a _ _ _ a2, hset_a _ _ _ a1]
            have kl : ∀ j, j ≠ 0 → h5 l j = h4 l j := fun j hj => by rw [← eH, hset_i _ _ hj, x2]
            have v0 : h5 l 0 = L.A.nq + 1 := by rw [← eH, hset_e]
            have v1 : ∀ q, h5 (l + 1) q = if q = L.A.nq then w else h4 (l + 1) q := by
              intro q
              rw [← eH, hset_a _ _ _ (by omega), hset_a _ _ _ (by omega)]
              split
              · rename_i e; rw [e, hset_e]
              · rename_i e; rw [hset_i _ _ e]
            have v2 : ∀ q, h5 (l + 2) q = if q = L.A.nq then c else h4 (l + 2) q := by
              intro q
              rw [← eH, hset_a _ _ _ (by omega)]
              split
              · rename_i e; rw [e, hset_e]
              · rename_i e; rw [hset_i _ _ e, hset_a _ _ _ (by omega)]
            refine hQ h5 (fun a a2 a4 al => by rw [kp a (by omega) (by omega) (by omega), F4 a a2 a4 al]) (lp_l ⟨?_, v0, ?_, ?_, ?_, ?_, ?_, ?_, ?_, ?_, ?_, ?_, ?_, ?_, ?_⟩ (T4.keep (kp 2 (by omega) (by omega) (by omega)) (kp 3 (by omega) (by omega) (by omega))))
            · have Z := LK_
              unfold LK at Z ⊢
              rw [kl 1 (by decide), kl 2 (by decide), kl 3 (by decide), kl 4 (by decide), kl 6 (by decide), kl 7 (by decide)]
              exact Z
            · rw [kl 5 (by decide)]; exact I4.nd
            · rw [kl 8 (by decide)]; exact I4.wk
            · rw [kl 9 (by decide)]; exact I4.ca
            · rw [kl 10 (by decide)]; exact I4.cm
            · intro q hq
              rw [v1]
              show _ = if q = L.A.nq then w else L.na q
              split
              · rfl
              · exact I4.na q ⟨hq.1, by have : q < L.A.nq + 1 := hq.2; omega⟩
            · intro q hq
              rw [v2]
              show _ = if q = L.A.nq then c else L.A.ch q
              split
              · rfl
              · exact I4.ch q ⟨hq.1, by have : q < L.A.nq + 1 := hq.2; omega⟩
            · rw [kp (l + 11) (by omega) (by omega) (by omega)]; exact I4.dx
            · rw [kp (l + 12) (by omega) (by omega) (by omega)]; exact I4.dy
            · exact TI.addq (P := P) (Or.inl rfl) c6 (I4.t0.keep (fun a h0 h1 => kp a (by omega) (by omega) (by omega)))
            · exact TI.addq (P := P) (Or.inr rfl) c6 (I4.t1.keep (fun a h0 h1 => kp a (by omega) (by omega) (by omega)))
            · rw [kp 4 (by omega) (by omega) (by omega)]; exact I4.r0
            · rw [kp 4 (by omega) (by omega) (by omega)]; exact I4.tw
            · rw [kp 4 (by omega) (by omega) (by omega)]; exact I4.tc
      · rw [if_pos c2] at hQ
        rw [if_neg c2, ga k4, I1.r0, ga G.k2]
        refine T78 G T1 (by decide) (fun h2 f2 X => ?_)
        rw [o0, List.nil_append]
        exact b69 h2 _ _ w (F1.tok f2) ((I1.tok hl f2).j P) X hQ
    · rw [if_pos c1] at hQ
      rw [bzf c1, if_neg (fun z => z rfl), ga k4, I1.r0, ga G.k2]
      refine T78 G T1 (by decide) (fun h2 f2 X => ?_)
      rw [o0, List.nil_append, B27_49]
      exact b69 h2 _ _ w (F1.tok f2) ((I1.tok hl f2).j P) X hQ
  · rw [if_pos (by omega)] at hQ
    rw [if_neg c6, ga k4, I.r0, ga G.k2]
    refine T78 G T (by decide) (fun h2 f2 X => ?_)
    rw [o0, List.nil_append, B27_18]
    exact hQ h2 ((FL.rfl_ l h).tok f2) (lp_r ((I.tok hl f2).j P) X)
