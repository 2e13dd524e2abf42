/-! a reader's tokens: sound at p, or with a fault -/
def KP (h : KH) (t : Int → Int) (n p : Nat) : Prop := (n ≤ 700) ∧ (h 2 0 = 3) ∧ (∀ k : Nat, k < n → h 3 (k : Int) = t (k : Int)) ∧ (h 2 9 = n) ∧ (h 2 1 = 0) ∧ (h 2 2 = 0) ∧ (h 2 3 = -1) ∧ (TD (h 2) t n p)
theorem KP.n7 {h : KH} {t : Int → Int} {n p : Nat} (z_ : KP h t n p) : n ≤ 700 := z_.1
theorem KP.t0 {h : KH} {t : Int → Int} {n p : Nat} (z_ : KP h t n p) : h 2 0 = 3 := z_.2.1
theorem KP.tx {h : KH} {t : Int → Int} {n p : Nat} (z_ : KP h t n p) : ∀ k : Nat, k < n → h 3 (k : Int) = t (k : Int) := z_.2.2.1
theorem KP.en {h : KH} {t : Int → Int} {n p : Nat} (z_ : KP h t n p) : h 2 9 = n := z_.2.2.2.1
theorem KP.fd {h : KH} {t : Int → Int} {n p : Nat} (z_ : KP h t n p) : h 2 1 = 0 := z_.2.2.2.2.1
theorem KP.fk {h : KH} {t : Int → Int} {n p : Nat} (z_ : KP h t n p) : h 2 2 = 0 := z_.2.2.2.2.2.1
theorem KP.fp {h : KH} {t : Int → Int} {n p : Nat} (z_ : KP h t n p) : h 2 3 = -1 := z_.2.2.2.2.2.2.1
theorem KP.td {h : KH} {t : Int → Int} {n p : Nat} (z_ : KP h t n p) : TD (h 2) t n p := z_.2.2.2.2.2.2.2
def KF (h : KH) (n : Nat) (k : Int) (pl : Int) : Prop := (n ≤ 700) ∧ (h 2 0 = 3) ∧ (h 2 9 = n) ∧ (h 2 1 = 0) ∧ (∃ q : Nat, h 2 8 = q ∧ q ≤ n) ∧ (h 2 2 = k) ∧ (k ≠ 0) ∧ (h 2 3 = pl)
theorem KF.n7 {h : KH} {n : Nat} {k : Int} {pl : Int} (z_ : KF h n k pl) : n ≤ 700 := z_.1
theorem KF.t0 {h : KH} {n : Nat} {k : Int} {pl : Int} (z_ : KF h n k pl) : h 2 0 = 3 := z_.2.1
theorem KF.en {h : KH} {n : Nat} {k : Int} {pl : Int} (z_ : KF h n k pl) : h 2 9 = n := z_.2.2.1
theorem KF.fd {h : KH} {n : Nat} {k : Int} {pl : Int} (z_ : KF h n k pl) : h 2 1 = 0 := z_.2.2.2.1
theorem KF.nx {h : KH} {n : Nat} {k : Int} {pl : Int} (z_ : KF h n k pl) : ∃ q : Nat, h 2 8 = q ∧ q ≤ n := z_.2.2.2.2.1
theorem KF.fk {h : KH} {n : Nat} {k : Int} {pl : Int} (z_ : KF h n k pl) : h 2 2 = k := z_.2.2.2.2.2.1
theorem KF.k0 {h : KH} {n : Nat} {k : Int} {pl : Int} (z_ : KF h n k pl) : k ≠ 0 := z_.2.2.2.2.2.2.1
theorem KF.fp {h : KH} {n : Nat} {k : Int} {pl : Int} (z_ : KF h n k pl) : h 2 3 = pl := z_.2.2.2.2.2.2.2
theorem KP.keep {h h2 : KH} {t : Int → Int} {n p : Nat} (T : KP h t n p) (e2 : h2 2 = h 2) (e3 : h2 3 = h 3) : KP h2 t n p := by
  unfold KP at T ⊢
  rw [e2, e3]; exact T
theorem KF.keep {h h2 : KH} {n : Nat} {k pl : Int} (T : KF h n k pl) (e2 : h2 2 = h 2) : KF h2 n k pl := by
  unfold KF at T ⊢
  rw [e2]; exact T
/-- the fault that is told -/
def flt (t : Int → Int) (n p : Nat) (k : Int) : Int := if kd t n p = 4 then 1 else k
theorem flt_0 {t : Int → Int} {n p : Nat} {k : Int} (h : k ≠ 0) : flt t n p k ≠ 0 := by unfold flt; split <;> omega
theorem T79 {g : KG} (G : GT g) {h : KH} {t : Int → Int} {n p : Nat} (T : KP h t n p) {d : Nat} {Q : Option KV → KG → KH → Prop} (hQ : ∀ h2 : KH, (∀ a, a ≠ 2 → h2 a = h a) → KP h2 t n (nxt t n p) → Q none g h2) : Cl (d + 2) 79 [xR 2] g h Q := by
  have e := ed_r t T.td.pn
  refine A79 G T.n7 e.2.1 T.t0 T.tx T.en T.td.nx (fun h2 f2 j2 D => ?_)
  exact hQ h2 f2 ⟨T.n7, by rw [j2 0 (by decide)]; exact T.t0, by rw [f2 3 (by decide)]; exact T.tx, by rw [j2 9 (by decide)]; exact T.en, by rw [j2 1 (by decide)]; exact T.fd, by rw [j2 2 (by decide)]; exact T.fk, by rw [j2 3 (by decide)]; exact T.fp, D⟩
theorem F79 {g : KG} (G : GT g) {h : KH} {n : Nat} {k pl : Int} (T : KF h n k pl) {d : Nat} {Q : Option KV → KG → KH → Prop} (hQ : ∀ h2 : KH, (∀ a, a ≠ 2 → h2 a = h a) → KF h2 n k pl → Q none g h2) : Cl (d + 2) 79 [xR 2] g h Q := by
  obtain ⟨q, q8, qn⟩ := T.nx
  refine A79 (t := h 3) G T.n7 qn T.t0 (fun _ _ => rfl) T.en q8 (fun h2 f2 j2 D => ?_)
  have e := ed_r (h 3) D.pn
  exact hQ h2 f2 ⟨T.n7, by rw [j2 0 (by decide)]; exact T.t0, by rw [j2 9 (by decide)]; exact T.en, by rw [j2 1 (by decide)]; exact T.fd, ⟨_, D.nx, e.2.1⟩, by rw [j2 2 (by decide)]; exact T.fk, T.k0, by rw [j2 3 (by decide)]; exact T.fp⟩
theorem T78 {g : KG} (G : GT g) {h : KH} {t : Int → Int} {n p : Nat} (T : KP h t n p) {k : Int} (k0 : k ≠ 0) {d : Nat} {Q : Option KV → KG → KH → Prop} (hQ : ∀ h2 : KH, (∀ a, a ≠ 2 → h2 a = h a) → KF h2 n (flt t n p k) p → Q none g h2) : Cl (d + 1) 78 [xR 2, xI k] g h Q := by
  have e := ed_r t T.td.pn
  have fin : ∀ v : Int, v = flt t n p k → Rn d 78 21 [xR 2, xI k] [xI v, xR 2] g h Q := by
    intro v hv
    rw [B78_21, ga G.k2, ga G.k2, ga G.k2, B78_32]
    refine hQ _ (fun a ha => by rw [hset_a _ _ _ ha, hset_a _ _ _ ha]) ⟨T.n7, ?_, ?_, ?_, ⟨_, ?_, e.2.1⟩, ?_, flt_0 k0, ?_⟩
    · rw [hset_i _ _ (by decide), hset_i _ _ (by decide)]; exact T.t0
    · rw [hset_i _ _ (by decide), hset_i _ _ (by decide)]; exact T.en
    · rw [hset_i _ _ (by decide), hset_i _ _ (by decide)]; exact T.fd
    · rw [hset_i _ _ (by decide), hset_i _ _ (by decide)]; exact T.td.nx
    · rw [hset_i _ _ (by decide), hset_e, hv]
    · rw [hset_e, hset_i _ _ (by decide)]; exact T.td.pl
  rw [E78, ga G.k2, T.fk, if_neg (fun z => z rfl), ga G.k2, T.td.k6]
  by_cases z : kd t n p = 4
  · rw [if_neg (fun y => y z)]
    exact fin 1 (by unfold flt; rw [if_pos z])
  · rw [if_pos z]
    exact fin k (by unfold flt; rw [if_neg z])
theorem F78 {g : KG} (G : GT g) {h : KH} {n : Nat} {k pl : Int} (T : KF h n k pl) {k2 : Int} {d : Nat} {Q : Option KV → KG → KH → Prop} (hQ : Q none g h) : Cl (d + 1) 78 [xR 2, xI k2] g h Q := by
  rw [E78, ga G.k2, T.fk, if_pos T.k0, B78_32]
  exact hQ
theorem T74 {g : KG} (G : GT g) {h : KH} {t : Int → Int} {n p : Nat} (T : KP h t n p) {d : Nat} {Q : Option KV → KG → KH → Prop} (hQ : Q (some (xI 1)) g h) : Cl (d + 1) 74 [xR 2] g h Q := by
  rw [E74, ga G.k2, T.fk, if_neg (fun z => z rfl), B74_12, ga (by decide)]
  exact hQ
theorem F74 {g : KG} (G : GT g) {h : KH} {n : Nat} {k pl : Int} (T : KF h n k pl) {d : Nat} {Q : Option KV → KG → KH → Prop} (hQ : Q (some (xI 0)) g h) : Cl (d + 1) 74 [xR 2] g h Q := by
  rw [E74, ga G.k2, T.fk, if_pos T.k0, B74_12, ga (by decide)]
  exact hQ
theorem T75 {g : KG} (G : GT g) {h : KH} {t : Int → Int} {n p : Nat} (T : KP h t n p) {d : Nat} {Q : Option KV → KG → KH → Prop} (hQ : Q (some (xI (bz (kd t n p ≠ 0)))) g h) : Cl (d + 2) 75 [xR 2] g h Q := by
  rw [E75, ga G.k2]
  refine T74 G T ?_
  rw [o1, List.cons_append, List.nil_append, B75_4, if_neg (by decide), ga G.k2, T.td.k6]
  by_cases z : kd t n p = 0
  · rw [bzf (fun y => y z)] at hQ
    rw [if_pos z, B75_18, B75_19, ga (by decide)]
    exact hQ
  · rw [bzt z] at hQ
    rw [if_neg z, B75_19, ga (by decide)]
    exact hQ
theorem F75 {g : KG} (G : GT g) {h : KH} {n : Nat} {k pl : Int} (T : KF h n k pl) {d : Nat} {Q : Option KV → KG → KH → Prop} (hQ : Q (some (xI 0)) g h) : Cl (d + 2) 75 [xR 2] g h Q := by
  rw [E75, ga G.k2]
  refine F74 G T ?_
  rw [o1, List.cons_append, List.nil_append, B75_4, if_pos rfl, B75_18, B75_19, ga (by decide)]
  exact hQ
theorem A76 {g : KG} (G : GT g) {h : KH} {d : Nat} {Q : Option KV → KG → KH → Prop} (hQ : Q (some (xI (bz (h 2 6 = 2)))) g h) : Cl (d + 1) 76 [xR 2] g h Q := by
  rw [E76, ga G.k2]
  by_cases z : h 2 6 = 2
  · rw [bzt z] at hQ
    rw [if_neg (fun y => y z), B76_13, ga (by decide)]
    exact hQ
  · rw [bzf z] at hQ
    rw [if_pos z, B76_13, ga (by decide)]
    exact hQ
theorem A77 {g : KG} (G : GT g) {h : KH} {c : Int} {d : Nat} {Q : Option KV → KG → KH → Prop} (hQ : Q (some (xI (bz (h 2 6 = 3 ∧ h 2 5 = c)))) g h) : Cl (d + 1) 77 [xR 2, xI c] g h Q := by
  rw [E77, ga G.k2]
  by_cases z : h 2 6 = 3
  · rw [if_neg (fun y => y z), ga G.k2]
    by_cases z2 : h 2 5 = c
    · rw [bzt ⟨z, z2⟩] at hQ
      rw [if_neg (fun y => y z2), B77_21, ga (by decide)]
      exact hQ
    · rw [bzf (fun y => z2 y.2)] at hQ
      rw [if_pos z2, B77_20, B77_21, ga (by decide)]
      exact hQ
  · rw [bzf (fun y => z y.1)] at hQ
    rw [if_pos z, B77_20, B77_21, ga (by decide)]
    exact hQ
/-- whether the sign c stands here -/
def sgn (t : Int → Int) (n p : Nat) (c : Int) : Prop := kd t n p = 3 ∧ t p = c
theorem sgn_i {h : KH} {t : Int → Int} {n p : Nat} (T : KP h t n p) (c : Int) : (h 2 6 = 3 ∧ h 2 5 = c) = sgn t n p c := by
  rw [T.td.k6]
  unfold sgn
  apply propext
  constructor
  · intro z
    refine ⟨z.1, ?_⟩
    have y := T.td.nm (Or.inr z.1)
    unfold nmv at y
    rw [if_neg (by omega)] at y
    rw [← y]; exact z.2
  · intro z
    refine ⟨z.1, ?_⟩
    have y := T.td.nm (Or.inr z.1)
    unfold nmv at y
    rw [if_neg (by omega)] at y
    rw [y]; exact z.2
theorem T77y {g : KG} (G : GT g) {h : KH} {t : Int → Int} {n p : Nat} (T : KP h t n p) {c : Int} (y : sgn t n p c) {d : Nat} {Q : Option KV → KG → KH → Prop} (hQ : Q (some (xI 1)) g h) : Cl (d + 1) 77 [xR 2, xI c] g h Q := by
  refine A77 G ?_
  rw [bzt (by rw [sgn_i T]; exact y)]
  exact hQ
theorem T77n {g : KG} (G : GT g) {h : KH} {t : Int → Int} {n p : Nat} (T : KP h t n p) {c : Int} (y : ¬ sgn t n p c) {d : Nat} {Q : Option KV → KG → KH → Prop} (hQ : Q (some (xI 0)) g h) : Cl (d + 1) 77 [xR 2, xI c] g h Q := by
  refine A77 G ?_
  rw [bzf (by rw [sgn_i T]; exact y)]
  exact hQ
theorem T82 {g : KG} (G : GT g) {h : KH} {t : Int → Int} {n p : Nat} (T : KP h t n p) {lo hi : Int} {d : Nat} {Q : Option KV → KG → KH → Prop} (hb : kd t n p ≠ 2 → ∀ h2 : KH, ∀ v : Int, (∀ a, a ≠ 2 → h2 a = h a) → KF h2 n (flt t n p 2) p → Q (some (xI v)) g h2) (hn : kd t n p = 2 → ¬ (lo ≤ nmv t n p ∧ nmv t n p ≤ hi) → ∀ h2 : KH, ∀ v : Int, (∀ a, a ≠ 2 → h2 a = h a) → KF h2 n (flt t n p 4) p → Q (some (xI v)) g h2) (hQ : kd t n p = 2 → lo ≤ nmv t n p ∧ nmv t n p ≤ hi → Q (some (xI (nmv t n p))) g h) : Cl (d + 2) 82 [xR 2, xI lo, xI hi] g h Q := by
  rw [E82, ga G.k2, T.td.k6]
  by_cases z : kd t n p = 2
  · have v5 := T.td.nm (Or.inl z)
    have bad : ¬ (lo ≤ nmv t n p ∧ nmv t n p ≤ hi) → Rn (d + 1) 82 32 [xR 2, xI lo, xI hi] [] g h Q := by
      intro y
      rw [B82_32, ga G.k2]
      refine T78 G T (by decide) (fun h2 f2 F => ?_)
      rw [o0, List.nil_append, B82_37, ga G.k2]
      exact hn z y h2 _ f2 F
    rw [if_pos z, ga G.k2, v5]
    by_cases z1 : nmv t n p < lo
    · rw [if_pos z1]; exact bad (by omega)
    · rw [if_neg z1, ga G.k2]
      by_cases z2 : nmv t n p ≤ hi
      · rw [if_pos z2, B82_37, ga G.k2, v5]
        exact hQ z ⟨by omega, z2⟩
      · rw [if_neg z2]; exact bad (by omega)
  · rw [if_neg z, ga G.k2]
    refine T78 G T (by decide) (fun h2 f2 F => ?_)
    rw [o0, List.nil_append, B82_13, B82_37, ga G.k2]
    exact hb z h2 _ f2 F
theorem F82 {g : KG} (G : GT g) {h : KH} {n : Nat} {k pl : Int} (T : KF h n k pl) {lo hi : Int} {d : Nat} {Q : Option KV → KG → KH → Prop} (hQ : ∀ v : Int, Q (some (xI v)) g h) : Cl (d + 2) 82 [xR 2, xI lo, xI hi] g h Q := by
  have fin : Rn (d + 1) 82 37 [xR 2, xI lo, xI hi] [] g h Q := by
    rw [B82_37, ga G.k2]; exact hQ _
  have bad : Rn (d + 1) 82 32 [xR 2, xI lo, xI hi] [] g h Q := by
    rw [B82_32, ga G.k2]
    exact F78 G T fin
  rw [E82, ga G.k2]
  split
  · rw [ga G.k2]
    split
    · exact bad
    · rw [ga G.k2]
      split
      · exact fin
      · exact bad
  · rw [ga G.k2]
    refine F78 G T ?_
    rw [o0, List.nil_append, B82_13]
    exact fin
theorem F83 {g : KG} (G : GT g) {h : KH} {n : Nat} {k pl : Int} (T : KF h n k pl) {lo hi : Int} {d : Nat} {Q : Option KV → KG → KH → Prop} (hQ : ∀ (h2 : KH) (v : Int), (∀ a, a ≠ 2 → h2 a = h a) → KF h2 n k pl → Q (some (xI v)) g h2) : Cl (d + 3) 83 [xR 2, xI lo, xI hi] g h Q := by
  rw [E83, ga G.k2]
  refine F82 G T (fun v => ?_)
  rw [o1, List.cons_append, List.nil_append, B83_6, ga G.k2]
  refine F79 G T (fun h2 f2 F => ?_)
  rw [o0, List.nil_append, B83_11]
  exact hQ h2 v f2 F
theorem T83 {g : KG} (G : GT g) {h : KH} {t : Int → Int} {n p : Nat} (T : KP h t n p) {lo hi : Int} {d : Nat} {Q : Option KV → KG → KH → Prop} (hb : kd t n p ≠ 2 → ∀ h2 : KH, ∀ v : Int, (∀ a, a ≠ 2 → h2 a = h a) → KF h2 n (flt t n p 2) p → Q (some (xI v)) g h2) (hn : kd t n p = 2 → ¬ (lo ≤ nmv t n p ∧ nmv t n p ≤ hi) → ∀ h2 : KH, ∀ v : Int, (∀ a, a ≠ 2 → h2 a = h a) → KF h2 n (flt t n p 4) p → Q (some (xI v)) g h2) (hQ : kd t n p = 2 → lo ≤ nmv t n p ∧ nmv t n p ≤ hi → ∀ h2 : KH, (∀ a, a ≠ 2 → h2 a = h a) → KP h2 t n (nxt t n p) → Q (some (xI (nmv t n p))) g h2) : Cl (d + 3) 83 [xR 2, xI lo, xI hi] g h Q := by
  have go : ∀ (h2 : KH) (v k pl : Int), (∀ a, a ≠ 2 → h2 a = h a) → KF h2 n k pl → (∀ h3 : KH, (∀ a, a ≠ 2 → h3 a = h a) → KF h3 n k pl → Q (some (xI v)) g h3) → Rn (d + 2) 83 6 [xR 2, xI lo, xI hi, xU] [xI v] g h2 Q := by
    intro h2 v k pl f2 F q
    rw [B83_6, ga G.k2]
    refine F79 G F (fun h3 f3 F3 => ?_)
    rw [o0, List.nil_append, B83_11]
    exact q h3 (fun a ha => by rw [f3 a ha, f2 a ha]) F3
  rw [E83, ga G.k2]
  refine T82 G T (fun z h2 v f2 F => ?_) (fun z z2 h2 v f2 F => ?_) (fun z z2 => ?_)
  · rw [o1, List.cons_append, List.nil_append]
    exact go h2 v _ _ f2 F (fun h3 f3 F3 => hb z h3 v f3 F3)
  · rw [o1, List.cons_append, List.nil_append]
    exact go h2 v _ _ f2 F (fun h3 f3 F3 => hn z z2 h3 v f3 F3)
  · rw [o1, List.cons_append, List.nil_append, B83_6, ga G.k2]
    refine T79 G T (fun h3 f3 T3 => ?_)
    rw [o0, List.nil_append, B83_11]
    exact hQ z z2 h3 f3 T3
theorem F84 {g : KG} (G : GT g) {h : KH} {n : Nat} {k pl : Int} (T : KF h n k pl) {c : Int} {d : Nat} {Q : Option KV → KG → KH → Prop} (hQ : ∀ h2 : KH, (∀ a, a ≠ 2 → h2 a = h a) → KF h2 n k pl → Q none g h2) : Cl (d + 3) 84 [xR 2, xI c] g h Q := by
  have fin : Rn (d + 2) 84 13 [xR 2, xI c] [] g h Q := by
    rw [B84_13, ga G.k2]
    refine F79 G T (fun h2 f2 F => ?_)
    rw [o0, List.nil_append, B84_17]
    exact hQ h2 f2 F
  rw [E84, ga G.k2]
  refine A77 G ?_
  rw [o1, List.cons_append, List.nil_append, B84_5]
  split
  · exact fin
  · rw [ga G.k2]
    exact F78 G T fin
theorem T84 {g : KG} (G : GT g) {h : KH} {t : Int → Int} {n p : Nat} (T : KP h t n p) {c : Int} {d : Nat} {Q : Option KV → KG → KH → Prop} (hb : ¬ sgn t n p c → ∀ h2 : KH, (∀ a, a ≠ 2 → h2 a = h a) → KF h2 n (flt t n p 2) p → Q none g h2) (hQ : sgn t n p c → ∀ h2 : KH, (∀ a, a ≠ 2 → h2 a = h a) → KP h2 t n (nxt t n p) → Q none g h2) : Cl (d + 3) 84 [xR 2, xI c] g h Q := by
  rw [E84, ga G.k2]
  by_cases y : sgn t n p c
  · refine T77y G T y ?_
    rw [o1, List.cons_append, List.nil_append, B84_5, if_pos (by decide), B84_13, ga G.k2]
    refine T79 G T (fun h2 f2 F => ?_)
    rw [o0, List.nil_append, B84_17]
    exact hQ y h2 f2 F
  · refine T77n G T y ?_
    rw [o1, List.cons_append, List.nil_append, B84_5, if_neg (by decide), ga G.k2]
    refine T78 G T (by decide) (fun h2 f2 F => ?_)
    rw [o0, List.nil_append, B84_13, ga G.k2]
    refine F79 G F (fun h3 f3 F3 => ?_)
    rw [o0, List.nil_append, B84_17]
    exact hb y h3 (fun a ha => by rw [f3 a ha, f2 a ha]) F3
/-- start: the tape is empty then -/
theorem S73 {g : KG} (G : GT g) {h : KH} {t : Int → Int} {n : Nat} (ht : ∀ k : Nat, k < n → h 3 (k : Int) = t (k : Int)) (n7 : n ≤ 700) (h0 : h 2 0 = 3) {d : Nat} {Q : Option KV → KG → KH → Prop} (hQ : ∀ h2 : KH, (∀ a, a ≠ 2 → h2 a = h a) → KP h2 t n (skp t n 0) → Q none g h2) : Cl (d + 3) 73 [xR 2, xI n] g h Q := by
  rw [E73, ga G.k2, ga G.k2, ga G.k2, ga G.k2, ga G.k2, ga G.k2]
  generalize e2 : hset (hset (hset (hset (hset h 2 9 (n : Int)) 2 8 0) 2 1 0) 2 2 0) 2 3 (-1) = h2
  have f2 : ∀ a, a ≠ 2 → h2 a = h a := fun a ha => by rw [← e2, hset_a _ _ _ ha, hset_a _ _ _ ha, hset_a _ _ _ ha, hset_a _ _ _ ha, hset_a _ _ _ ha]
  have v0 : h2 2 0 = 3 := by rw [← e2, hset_i _ _ (by decide), hset_i _ _ (by decide), hset_i _ _ (by decide), hset_i _ _ (by decide), hset_i _ _ (by decide), h0]
  have v9 : h2 2 9 = n := by rw [← e2, hset_i _ _ (by decide), hset_i _ _ (by decide), hset_i _ _ (by decide), hset_i _ _ (by decide), hset_e]
  have v8 : h2 2 8 = (0 : Nat) := by rw [← e2, hset_i _ _ (by decide), hset_i _ _ (by decide), hset_i _ _ (by decide), hset_e]; rfl
  have v1 : h2 2 1 = 0 := by rw [← e2, hset_i _ _ (by decide), hset_i _ _ (by decide), hset_e]
  have v2 : h2 2 2 = 0 := by rw [← e2, hset_i _ _ (by decide), hset_e]
  have v3 : h2 2 3 = -1 := by rw [← e2, hset_e]
  refine A79 (t := t) G n7 (by omega) v0 (fun k hk => by rw [f2 3 (by decide)]; exact ht k hk) v9 v8 (fun h3 f3 j3 D => ?_)
  rw [o0, List.nil_append, B73_29]
  exact hQ h3 (fun a ha => by rw [f3 a ha, f2 a ha]) ⟨n7, by rw [j3 0 (by decide)]; exact v0, by rw [f3 3 (by decide), f2 3 (by decide)]; exact ht, by rw [j3 9 (by decide)]; exact v9, by rw [j3 1 (by decide)]; exact v1, by rw [j3 2 (by decide)]; exact v2, by rw [j3 3 (by decide)]; exact v3, D⟩
