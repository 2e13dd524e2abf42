/-! the weights of a table, on the class's side -/
theorem S29n {g : KG} (G : GT g) (k4 : gK g 4 = 4) {h : KH} {l : Int} {L : PL} (lk : LK g h l) (nq : h l 0 = L.A.nq) (na : ∀ q, inq L.A q → h (l + 1) q = L.na q) (r0 : h 4 0 = 2) (P : L.Ok) {t : Int → Int} {n p : Nat} (T : KP h t n p) {many : Int} (hm : 0 ≤ many ∧ many ≤ L.A.nq) {d : Nat} {Q : Option KV → KG → KH → Prop} (hb : ¬ isnmD (wdv t n p) → ∀ h2 : KH, (∀ a, a ≠ 2 → h2 a = h a) → KF h2 n (flt t n p 2) p → Q (some (xI (-1))) g h2) (hn : isnmD (wdv t n p) → fnd L.na (wdv t n p) many.toNat 0 = -1 → ∀ h2 : KH, (∀ a, a ≠ 2 → h2 a = h a) → KF h2 n (flt t n p 3) p → Q (some (xI (-1))) g h2) (hQ : isnmD (wdv t n p) → fnd L.na (wdv t n p) many.toNat 0 ≠ -1 → Q (some (xI (fnd L.na (wdv t n p) many.toNat 0))) g h) : Cl (d + 2) 29 [xR 4, xR l, xI many] g h Q := by
  have h6 := P.O.nq
  have fc := fnd_c L.na (wdv t n p) L.A.nq.toNat many.toNat 0 (by omega)
  have fr := fnd_r L.na (wdv t n p) L.A.nq.toNat 0
  rw [E29, ga k4, r0, ga G.k2, T.td.wd]
  refine S30 ?_
  rw [o1, List.cons_append, List.nil_append, B29_10]
  by_cases c1 : isnmD (wdv t n p)
  · rw [bzt c1, if_pos (by decide), ga k4, r0, ga G.k2, ga lk.k0, T.td.wd]
    refine S18 lk nq na P ?_
    rw [o1, List.cons_append, List.nil_append, B29_34]
    have bad : ∀ x, fnd L.na (wdv t n p) many.toNat 0 = -1 → Rn (d + 1) 29 45 [xR 4, xR l, xI many, xI x] [] g h Q := by
      intro x e
      rw [B29_45, ga k4, r0, ga G.k2]
      refine T78 G T (by decide) (fun h2 f2 X => ?_)
      rw [o0, List.nil_append, B29_53]
      exact hn c1 e h2 f2 X
    by_cases c2 : fnd L.na (wdv t n p) L.A.nq.toNat 0 = -1
    · rw [if_pos (Or.inl c2)] at fc
      rw [if_pos c2]
      exact bad _ fc
    · rw [if_neg c2]
      by_cases c3 : fnd L.na (wdv t n p) L.A.nq.toNat 0 < many
      · rw [if_neg (by omega)] at fc
        rw [if_pos c3, ← fc]
        exact hQ c1 (by omega)
      · rw [if_pos (by omega)] at fc
        rw [if_neg c3]
        exact bad _ fc
  · rw [bzf c1, if_neg (fun z => z rfl), ga k4, r0, ga G.k2]
    refine T78 G T (by decide) (fun h2 f2 X => ?_)
    rw [o0, List.nil_append, B29_21]
    exact hb c1 h2 f2 X
theorem S29 {g : KG} (G : GT g) (k4 : gK g 4 = 4) {h : KH} {l : Int} {L : PL} (I : LI g h l L) (P : L.Ok) {t : Int → Int} {n p : Nat} (T : KP h t n p) {many : Int} (hm : 0 ≤ many ∧ many ≤ L.A.nq) {d : Nat} {Q : Option KV → KG → KH → Prop} (hb : ¬ isnmD (wdv t n p) → ∀ h2 : KH, (∀ a, a ≠ 2 → h2 a = h a) → KF h2 n (flt t n p 2) p → Q (some (xI (-1))) g h2) (hn : isnmD (wdv t n p) → fnd L.na (wdv t n p) many.toNat 0 = -1 → ∀ h2 : KH, (∀ a, a ≠ 2 → h2 a = h a) → KF h2 n (flt t n p 3) p → Q (some (xI (-1))) g h2) (hQ : isnmD (wdv t n p) → fnd L.na (wdv t n p) many.toNat 0 ≠ -1 → Q (some (xI (fnd L.na (wdv t n p) many.toNat 0))) g h) : Cl (d + 2) 29 [xR 4, xR l, xI many] g h Q := S29n G k4 I.lk I.nq I.na I.r0 P T hm hb hn hQ
/-- what the weights' reader writes -/
def FW (tt q : Int) (h h2 : KH) : Prop := (∀ a, a ≠ 2 → a ≠ tt + 3 → h2 a = h a) ∧ ∀ j, (j < 16 * q ∨ 16 * q + 16 ≤ j) → h2 (tt + 3) j = h (tt + 3) j
theorem FW.rfl_ (tt q : Int) (h : KH) : FW tt q h h := ⟨fun _ _ _ => rfl, fun _ _ => rfl⟩
theorem FW.tok {tt q : Int} {h h1 h2 : KH} (ht : tt + 3 ≠ 2) (F : FW tt q h h1) (f : ∀ a, a ≠ 2 → h2 a = h1 a) : FW tt q h h2 := ⟨fun a a2 a3 => by rw [f a a2, F.1 a a2 a3], fun j hj => by rw [f (tt + 3) ht, F.2 j hj]⟩
theorem FW.s {tt q : Int} {h h1 : KH} {j v : Int} (F : FW tt q h h1) (h0 : 16 * q ≤ j) (h1_ : j < 16 * q + 16) : FW tt q h (hset h1 (tt + 3) j v) := ⟨fun a a2 a3 => by rw [hset_a _ _ _ a3, F.1 a a2 a3], fun i hi => by rw [hset_i _ _ (by omega), F.2 i hi]⟩
theorem S31 {g : KG} (G : GT g) (k4 : gK g 4 = 4) {h : KH} (r0 : h 4 0 = 2) {tt : Int} (ht : 6 ≤ tt) (K0 : TK g h tt) {t : Int → Int} {n p : Nat} (T : KP h t n p) {q c R : Int} (hq : 0 ≤ q ∧ q < 6) (hc : 2 ≤ c ∧ c ≤ 4) (hR : 1 ≤ R ∧ R ≤ 4) {w0 : Int → Int → Int} {Lf : (Int → Int → Int) → PL} {Z : LRz} {d : Nat} {Q : Option KV → KG → KH → Prop} (hZ : sWs t n c (fun w p2 => sEnd t n (Lf w) p2) (R * c).toNat w0 0 0 0 p = Z) (hb : ∀ k pl, Z = .inr (k, pl) → ∀ h2 : KH, FW tt q h h2 → KF h2 n k pl → Q none g h2) (hQ : ∀ w p2, Z = .inl (Lf w, p2) → ∀ h2 : KH, FW tt q h h2 → (∀ r a, 0 ≤ r → r < R → 0 ≤ a → a < c → h2 (tt + 3) (16 * q + 4 * r + a) = w r a) → KP h2 t n p2 → Q none g h2) : Cl (d + 4) 31 [xR 4, xR tt, xI q, xI c, xI R] g h Q := by
  have h3 : c = 2 ∨ c = 3 ∨ c = 4 := by omega
  have rr : ∀ h1, FW tt q h h1 → h1 4 0 = 2 := fun h1 f1 => by rw [f1.1 4 (by decide) (by omega)]; exact r0
  have pt : ∀ h1, FW tt q h h1 → h1 tt 2 = tt + 3 := fun h1 f1 => by rw [f1.1 tt (by omega) (by omega)]; exact K0.p2
  -- after a fault
  have f168 : ∀ (h1 : KH) (kk pl r : Int) (x6 x7 x8 : KV), FW tt q h h1 → KF h1 n kk pl → (∀ h2 : KH, FW tt q h h2 → KF h2 n kk pl → Q none g h2) → Rn (d + 3) 31 168 [xR 4, xR tt, xI q, xI c, xI R, xI r, x6, x7, x8] [] g h1 Q := by
    intro h1 kk pl r x6 x7 x8 f1 F z
    rw [B31_168, ga k4, rr h1 f1, ga G.k2]
    refine F84 G F (fun h2 f2 F2 => ?_)
    rw [o0, List.nil_append, B31_177]
    exact z h2 (f1.tok (by omega) f2) F2
  have f3 : ∀ m : Nat, ∀ (h1 : KH) (kk pl r : Int) (x6 x7 x8 : KV), 0 ≤ r → R - r ≤ m → FW tt q h h1 → KF h1 n kk pl → (∀ h2 : KH, FW tt q h h2 → KF h2 n kk pl → Q none g h2) → Rn (d + 3) 31 3 [xR 4, xR tt, xI q, xI c, xI R, xI r, x6, x7, x8] [] g h1 Q := by
    intro m
    have tail : ∀ (h1 : KH) (kk pl r : Int) (x6 x7 x8 : KV), R ≤ r → FW tt q h h1 → KF h1 n kk pl → (∀ h2 : KH, FW tt q h h2 → KF h2 n kk pl → Q none g h2) → Rn (d + 3) 31 3 [xR 4, xR tt, xI q, xI c, xI R, xI r, x6, x7, x8] [] g h1 Q := by
      intro h1 kk pl r x6 x7 x8 hr f1 F z
      rw [B31_3, if_pos hr, ga k4, rr h1 f1, ga G.k2]
      refine A76 G ?_
      rw [o1, List.cons_append, List.nil_append, B31_145]
      split
      · exact f168 h1 kk pl r x6 x7 x8 f1 F z
      · rw [ga k4, rr h1 f1, ga G.k2]
        refine F82 G F (fun v => ?_)
        rw [o1, List.cons_append, List.nil_append, B31_158, ga k4, rr h1 f1, ga G.k2]
        refine F78 G F ?_
        rw [o0, List.nil_append]
        exact f168 h1 kk pl r x6 x7 x8 f1 F z
    induction m with
    | zero =>
      intro h1 kk pl r x6 x7 x8 hr0 hr f1 F z
      exact tail h1 kk pl r x6 x7 x8 (by omega) f1 F z
    | succ m ih =>
      intro h1 kk pl r x6 x7 x8 hr0 hr f1 F z
      by_cases hR2 : R ≤ r
      · exact tail h1 kk pl r x6 x7 x8 hR2 f1 F z
      · rw [B31_3, if_neg hR2, B31_16, if_neg (by omega), ga k4, rr h1 f1, ga G.k2]
        refine F74 G F ?_
        rw [o1, List.cons_append, List.nil_append, B31_29, if_pos rfl, B31_132, w32_id (by omega) (by omega)]
        exact ih h1 kk pl (r + 1) _ _ _ (by omega) (by omega) f1 F z
  have f16 : ∀ (h1 : KH) (kk pl r s a : Int) (x8 : KV), 0 ≤ r → r < R → FW tt q h h1 → KF h1 n kk pl → (∀ h2 : KH, FW tt q h h2 → KF h2 n kk pl → Q none g h2) → Rn (d + 3) 31 16 [xR 4, xR tt, xI q, xI c, xI R, xI r, xI s, xI a, x8] [] g h1 Q := by
    intro h1 kk pl r s a x8 hr0 hr f1 F z
    have go : Rn (d + 3) 31 132 [xR 4, xR tt, xI q, xI c, xI R, xI r, xI s, xI a, x8] [] g h1 Q := by
      rw [B31_132, w32_id (by omega) (by omega)]
      exact f3 (R - (r + 1)).toNat h1 kk pl (r + 1) _ _ _ (by omega) (by omega) f1 F z
    rw [B31_16]
    split
    · exact go
    · rw [ga k4, rr h1 f1, ga G.k2]
      refine F74 G F ?_
      rw [o1, List.cons_append, List.nil_append, B31_29, if_pos rfl]
      exact go
  have f104 : ∀ (h1 : KH) (kk pl r s a v : Int), 0 ≤ r → r < R → 0 ≤ a → a < c → FW tt q h h1 → KF h1 n kk pl → (∀ h2 : KH, FW tt q h h2 → KF h2 n kk pl → Q none g h2) → Rn (d + 3) 31 104 [xR 4, xR tt, xI q, xI c, xI R, xI r, xI s, xI a, xI v] [] g h1 Q := by
    intro h1 kk pl r s a v hr0 hr ha0 ha f1 F z
    have fx := f1.s (j := 16 * q + 4 * r + a) (v := v) (by omega) (by omega)
    rw [B31_104, ga K0.k0, S154 hq.1 hq.2 hr0 (by omega) ha0 (by omega), o1, List.cons_append, List.nil_append, pt h1 f1, B31_116, ga ⟨K0.k3, by omega, by omega, by rw [K0.l3]; omega⟩, ga k4, rr _ fx, ga G.k2]
    refine F79 G (F.s (by omega)) (fun h2 f2 F2 => ?_)
    rw [o0, List.nil_append, B31_126]
    exact f16 h2 kk pl r s _ _ hr0 hr (fx.tok (by omega) f2) F2 z
  have f71 : ∀ (h1 : KH) (kk pl r s a v : Int) (x8 : KV), 0 ≤ r → r < R → 0 ≤ a → a < c → FW tt q h h1 → KF h1 n kk pl → (∀ h2 : KH, FW tt q h h2 → KF h2 n kk pl → Q none g h2) → Rn (d + 3) 31 71 [xR 4, xR tt, xI q, xI c, xI R, xI r, xI s, xI a, x8] [xI v] g h1 Q := by
    intro h1 kk pl r s a v x8 hr0 hr ha0 ha f1 F z
    rw [B31_71]
    split
    · exact f104 h1 kk pl r _ a v hr0 hr ha0 ha f1 F z
    · split
      · exact f104 h1 kk pl r _ a v hr0 hr ha0 ha f1 F z
      · rw [ga k4, rr h1 f1, ga G.k2]
        refine F78 G F ?_
        rw [o0, List.nil_append]
        exact f104 h1 kk pl r _ a v hr0 hr ha0 ha f1 F z
  have main : ∀ k : Nat, (∀ (w : Int → Int → Int) (r a s : Int) (p : Nat) (h1 : KH) (x8 : KV), 0 < k → 0 ≤ r → r < R → 0 ≤ a → a < c → 0 ≤ s → s ≤ 16 * a → r * c + a + k = R * c → FW tt q h h1 → (∀ r2 a2, 0 ≤ r2 → 0 ≤ a2 → a2 < c → (r2 < r ∨ (r2 = r ∧ a2 < a)) → h1 (tt + 3) (16 * q + 4 * r2 + a2) = w r2 a2) → KP h1 t n p → sWs t n c (fun w p2 => sEnd t n (Lf w) p2) k w r a s p = Z → Rn (d + 3) 31 16 [xR 4, xR tt, xI q, xI c, xI R, xI r, xI s, xI a, x8] [] g h1 Q) ∧ (∀ (w : Int → Int → Int) (r : Int) (p : Nat) (h1 : KH) (x6 x7 x8 : KV), 0 ≤ r → r * c + k = R * c → FW tt q h h1 → (∀ r2 a2, 0 ≤ r2 → 0 ≤ a2 → a2 < c → r2 < r → h1 (tt + 3) (16 * q + 4 * r2 + a2) = w r2 a2) → KP h1 t n p → sWs t n c (fun w p2 => sEnd t n (Lf w) p2) k w r 0 0 p = Z → Rn (d + 3) 31 3 [xR 4, xR tt, xI q, xI c, xI R, xI r, x6, x7, x8] [] g h1 Q) := by
    intro k
    induction k with
    | zero =>
      refine ⟨fun w r a s p h1 x8 z => absurd z (by decide), fun w r p h1 x6 x7 x8 r0_ hk f1 cl T1 e => ?_⟩
      have er : r = R := by rcases h3 with rfl | rfl | rfl <;> omega
      subst er
      unfold sWs at e
      rw [B31_3, if_pos (Int.le_refl _), ga k4, rr h1 f1, ga G.k2]
      refine A76 G ?_
      rw [T1.td.k6, o1, List.cons_append, List.nil_append, B31_145]
      by_cases c2 : kd t n p = 2
      · rw [if_pos c2] at e
        rw [bzt c2, if_neg (by decide), ga k4, rr h1 f1, ga G.k2]
        have go : ∀ (h2 : KH) (v kk pl : Int), FW tt q h h2 → KF h2 n kk pl → Z = .inr (kk, pl) → Rn (d + 3) 31 158 [xR 4, xR tt, xI q, xI c, xI r, xI r, x6, x7, x8] [xI v] g h2 Q := by
          intro h2 v kk pl f2 F ez
          rw [B31_158, ga k4, rr h2 f2, ga G.k2]
          refine F78 G F ?_
          rw [o0, List.nil_append]
          exact f168 h2 kk pl r x6 x7 x8 f2 F (fun h3 f3 F3 => hb kk pl ez h3 f3 F3)
        refine T82 G T1 (fun z => absurd c2 z) (fun z z2 h2 v f2 F => ?_) (fun z z2 => ?_)
        · rw [if_pos z2] at e
          rw [o1, List.cons_append, List.nil_append]
          exact go h2 v _ _ (f1.tok (by omega) f2) F e.symm
        · rw [if_neg (fun y => y z2)] at e
          rw [o1, List.cons_append, List.nil_append, B31_158, ga k4, rr h1 f1, ga G.k2]
          refine T78 G T1 (by decide) (fun h2 f2 F => ?_)
          rw [o0, List.nil_append]
          exact f168 h2 _ _ r x6 x7 x8 (f1.tok (by omega) f2) F (fun h3 f3 F3 => hb _ _ e.symm h3 f3 F3)
      · rw [if_neg c2] at e
        rw [bzf c2, if_pos rfl, B31_168, ga k4, rr h1 f1, ga G.k2]
        refine T84 G T1 (fun y h2 f2 F => ?_) (fun y h2 f2 T2 => ?_)
        · rw [sEnd_n y] at e
          rw [o0, List.nil_append, B31_177]
          exact hb _ _ e.symm h2 (f1.tok (by omega) f2) F
        · rw [sEnd_y y] at e
          rw [o0, List.nil_append, B31_177]
          exact hQ _ _ e.symm h2 (f1.tok (by omega) f2) (fun r2 a2 r0 r1 a0 a1 => by rw [f2 (tt + 3) (by omega)]; exact cl r2 a2 r0 a0 a1 r1) T2
    | succ k ih =>
      have B : ∀ (w : Int → Int → Int) (r a s : Int) (p : Nat) (h1 : KH) (x8 : KV), 0 ≤ r → r < R → 0 ≤ a → a < c → 0 ≤ s → s ≤ 16 * a → r * c + a + (k + 1 : Nat) = R * c → FW tt q h h1 → (∀ r2 a2, 0 ≤ r2 → 0 ≤ a2 → a2 < c → (r2 < r ∨ (r2 = r ∧ a2 < a)) → h1 (tt + 3) (16 * q + 4 * r2 + a2) = w r2 a2) → KP h1 t n p → sWs t n c (fun w p2 => sEnd t n (Lf w) p2) (k + 1) w r a s p = Z → Rn (d + 3) 31 16 [xR 4, xR tt, xI q, xI c, xI R, xI r, xI s, xI a, x8] [] g h1 Q := by
        intro w r a s p h1 x8 r0_ r1_ a0_ a1_ s0 s1 hk f1 cl T1 e
        unfold sWs at e
        rw [B31_16, if_neg (by omega), ga k4, rr h1 f1, ga G.k2]
        refine T74 G T1 ?_
        rw [o1, List.cons_append, List.nil_append, B31_29, if_neg (by decide), ga k4, rr h1 f1, ga G.k2]
        have s61 : (kd t n p ≠ 2 → Z = .inr (flt t n p 2, p)) → Rn (d + 3) 31 61 [xR 4, xR tt, xI q, xI c, xI R, xI r, xI s, xI a, x8] [] g h1 Q := by
          intro e2
          rw [B31_61, ga k4, rr h1 f1, ga G.k2]
          refine T82 G T1 (fun z h2 v f2 F => ?_) (fun z z2 h2 v f2 F => ?_) (fun z z2 => ?_)
          · rw [o1, List.cons_append, List.nil_append]
            exact f71 h2 _ _ r s a v x8 r0_ r1_ a0_ a1_ (f1.tok (by omega) f2) F (fun h3 f3 F3 => hb _ _ (e2 z) h3 f3 F3)
          · rw [if_neg (fun y => y z), if_pos z2] at e
            rw [o1, List.cons_append, List.nil_append]
            exact f71 h2 _ _ r s a v x8 r0_ r1_ a0_ a1_ (f1.tok (by omega) f2) F (fun h3 f3 F3 => hb _ _ e.symm h3 f3 F3)
          · rw [if_neg (fun y => y z), if_neg (fun y => y z2)] at e
            -- the cell is written
            have fin : ∀ s2 : Int, 0 ≤ s2 → s2 ≤ 16 * (a + 1) → (a + 1 = c → sWs t n c (fun w p2 => sEnd t n (Lf w) p2) k (fun r2 a2 => if r2 = r ∧ a2 = a then nmv t n p else w r2 a2) (r + 1) 0 0 (nxt t n p) = Z) → (a + 1 ≠ c → sWs t n c (fun w p2 => sEnd t n (Lf w) p2) k (fun r2 a2 => if r2 = r ∧ a2 = a then nmv t n p else w r2 a2) r (a + 1) s2 (nxt t n p) = Z) → Rn (d + 3) 31 104 [xR 4, xR tt, xI q, xI c, xI R, xI r, xI s2, xI a, xI (nmv t n p)] [] g h1 Q := by
              intro s2 s20 s21 e3 e4
              have fx := f1.s (j := 16 * q + 4 * r + a) (v := nmv t n p) (by omega) (by omega)
              rw [B31_104, ga K0.k0, S154 hq.1 hq.2 r0_ (by omega) a0_ (by omega), o1, List.cons_append, List.nil_append, pt h1 f1, B31_116, ga ⟨K0.k3, by omega, by omega, by rw [K0.l3]; omega⟩, ga k4, rr _ fx, ga G.k2]
              refine T79 G (T1.s (by omega) (by omega)) (fun h2 f2 T2 => ?_)
              have cl2 : ∀ r2 a2, 0 ≤ r2 → 0 ≤ a2 → a2 < c → (r2 < r ∨ (r2 = r ∧ a2 < a + 1)) → h2 (tt + 3) (16 * q + 4 * r2 + a2) = if r2 = r ∧ a2 = a then nmv t n p else w r2 a2 := by
                intro r2 a2 x0 y0 y1 hh
                rw [f2 (tt + 3) (by omega)]
                by_cases ee : r2 = r ∧ a2 = a
                · rw [if_pos ee, ee.1, ee.2, hset_e]
                · rw [if_neg ee, hset_i _ _ (by omega)]
                  exact cl r2 a2 x0 y0 y1 (by omega)
              rw [o0, List.nil_append, B31_126, w32_id (by omega) (by omega)]
              by_cases ea : a + 1 = c
              · rw [B31_16, if_pos (by omega), B31_132, w32_id (by omega) (by omega)]
                refine ih.2 _ (r + 1) _ h2 _ _ _ (by omega) (by rw [Int.add_mul]; omega) (fx.tok (by omega) f2) (fun r2 a2 x0 y0 y1 hh => cl2 r2 a2 x0 y0 y1 (by omega)) T2 (e3 ea)
              · refine ih.1 _ r (a + 1) s2 _ h2 _ ?_ r0_ r1_ (by omega) (by omega) s20 s21 (by omega) (fx.tok (by omega) f2) cl2 T2 (e4 ea)
                rcases h3 with rfl | rfl | rfl <;> omega
            rw [o1, List.cons_append, List.nil_append, B31_71, w32_id (x := c - 1) (by omega) (by omega), w32_id (x := s + nmv t n p) (by omega) (by omega)]
            by_cases ea : a + 1 = c
            · rw [if_pos ea] at e
              rw [if_neg (by omega)]
              by_cases es : s + nmv t n p = 16
              · rw [if_neg (fun y => y es)] at e
                rw [if_pos es]
                exact fin _ (by omega) (by omega) (fun _ => e) (fun y => absurd ea y)
              · rw [if_pos es] at e
                rw [if_neg es, ga k4, rr h1 f1, ga G.k2]
                refine T78 G T1 (by decide) (fun h2 f2 F => ?_)
                rw [o0, List.nil_append]
                exact f104 h2 _ _ r _ a _ r0_ r1_ a0_ a1_ (f1.tok (by omega) f2) F (fun h3 f3 F3 => hb _ _ e.symm h3 f3 F3)
            · rw [if_neg ea] at e
              rw [if_pos (by omega)]
              exact fin _ (by omega) (by omega) (fun y => absurd y ea) (fun _ => e)
        by_cases y : sgn t n p 59
        · have k2 : kd t n p ≠ 2 := by have := y.1; omega
          refine T77y G T1 y ?_
          rw [o1, List.cons_append, List.nil_append, B31_41, if_neg (by decide), w32_id (by omega) (by omega)]
          rw [if_pos k2] at e
          by_cases ra : r + a ≤ 0
          · rw [if_neg (fun z => by omega)] at e
            rw [if_pos ra]
            exact s61 (fun _ => e.symm)
          · rw [if_pos ⟨y, by omega⟩] at e
            rw [if_neg ra, ga k4, rr h1 f1, ga G.k2]
            refine T78 G T1 (by decide) (fun h2 f2 F => ?_)
            rw [o0, List.nil_append, B31_61, ga k4, rr h2 (f1.tok (by omega) f2), ga G.k2]
            refine F82 G F (fun v => ?_)
            rw [o1, List.cons_append, List.nil_append]
            exact f71 h2 _ _ r s a v x8 r0_ r1_ a0_ a1_ (f1.tok (by omega) f2) F (fun h3 f3 F3 => hb _ _ e.symm h3 f3 F3)
        · refine T77n G T1 y ?_
          rw [o1, List.cons_append, List.nil_append, B31_41, if_pos rfl]
          refine s61 (fun z => ?_)
          rw [if_pos z, if_neg (fun z => y z.1)] at e
          exact e.symm
      refine ⟨fun w r a s p h1 x8 _ => B w r a s p h1 x8, fun w r p h1 x6 x7 x8 r0_ hk f1 cl T1 e => ?_⟩
      have hr : r < R := by rcases h3 with rfl | rfl | rfl <;> omega
      rw [B31_3, if_neg (by omega)]
      exact B w r 0 0 p h1 _ r0_ hr (by decide) (by omega) (by decide) (by decide) (by omega) f1 (fun r2 a2 x0 y0 y1 hh => cl r2 a2 x0 y0 y1 (by omega)) T1 e
  rw [E31]
  have e0 : ((R * c).toNat : Int) = R * c := Int.toNat_of_nonneg (Int.mul_nonneg (by omega) (by omega))
  exact (main (R * c).toNat).2 w0 0 p h _ _ _ (by decide) (by rw [e0]; omega) (FW.rfl_ _ _ _) (fun r2 a2 x0 y0 y1 hh => by omega) T hZ
