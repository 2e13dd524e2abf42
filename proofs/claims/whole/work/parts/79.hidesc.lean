/-! hides, on the class's side -/
def St.hidn (A : St) (s u : Int) : Option Nat → Int × Int
  | none => (6, -1)
  | some k => (0, dif (A.pa s) (A.pk A.nq.toNat 0 k 0) A.nq.toNat)
def Wd.hmk (W : Wd) (p : Int) : Wd := Wd.mk_ W.cur W.mks W.nmk W.ts W.tm W.tv W.tp W.fed 0 W.top W.bot W.fk W.fp W.cur.nq (dg p) W.fs
def Wd.hidw (W : Wd) (s : Int) : Option Nat → Wd × Int
  | none => (W.st 6, -1)
  | some k => (W.hmk (W.cur.pk W.cur.nq.toNat 0 k 0), dif (W.cur.pa s) (W.cur.pk W.cur.nq.toNat 0 k 0) W.cur.nq.toNat)
def Wd.hides (W : Wd) (u s : Int) : Wd × Int := if (0 ≤ u ∧ u < W.cur.nr) ∧ 0 ≤ s ∧ s < W.cur.ns then W.hidw s (W.cur.hid s u) else (W.st 1, -1)
theorem hid_lt {A : St} {s u : Int} : ∀ m o k, A.nea s u m o = some k → k < A.nrw A.nq.toNat 0 := by
  intro m
  induction m with
  | zero => intro o k h; cases h
  | succ m ih =>
    intro o k h
    rw [St.nea] at h
    cases hh : A.hfs s u A.nq.toNat 0 0 o with
    | none => rw [hh] at h; exact ih _ k h
    | some j =>
      rw [hh] at h
      have e : j = k := Option.some.inj h
      rw [← e]
      exact (fstN_some _ _ hh).1
theorem S40 {g : KG} {h : KH} {l r : Int} {A : St} (S : SR g h 6 l r A) (O : A.Ok) {u : Int} (hu : 0 ≤ u ∧ u < A.nr) {d : Nat} {Q : Option KV → KG → KH → Prop} (hQ : Q (some (xI (bz (A.gby u = true)))) g h) : Cl (d + 1) 40 [xR r, xI u] g h Q := by
  have hn := O.nr
  have R := O.rsp.2.2 u hu.1 (by omega)
  have R2 := O.rsp.2.2 (u + 1) (by omega) (by omega)
  have rm := O.rsm
  have ru := O.rs u hu.1 hu.2
  have e0 := S.R.rs u hu.1 (by omega)
  have e1 := S.R.rs (u + 1) (by omega) (by omega)
  have up : ∀ m k : Nat, A.gbn (A.rs u) k = true → A.gbn (A.rs u) (k + m) = true := by
    intro m
    induction m with
    | zero => intro k h; exact h
    | succ m ih => intro k h; rw [← Nat.add_assoc, St.gbn, ih k h]; rfl
  have lp : ∀ n k : Nat, A.rs u + (k + n : Nat) = A.rs (u + 1) → A.gbn (A.rs u) k = false → ∀ x : KV, Rn d 40 7 [xR r, xI u, xI (A.rs u + k), x] [] g h Q := by
    intro n
    induction n with
    | zero =>
      intro k hk hg x
      have ek : (A.rs (u + 1) - A.rs u).toNat = k := by omega
      unfold St.gby at hQ
      rw [ek, hg, bzf (by decide)] at hQ
      rw [B40_7, ga S.R.k0, S.R.p2, w32_id (by omega) (by omega), ga ⟨S.R.k1, by omega, by rw [S.R.l1]; omega⟩, e1, if_pos (by omega), g01]
      exact hQ
    | succ n ih =>
      intro k hk hg x
      have o := O.op (A.rs u + k) (by omega) (by omega)
      have ec := S.R.cd (A.rs u + k) (by omega) (by omega)
      have sr := stc_r (op := A.op (A.rs u + k)) ⟨o.1, o.2.1⟩
      have en : A.rs u + ((k + 1 : Nat) : Int) = A.rs u + k + 1 := by omega
      have nx := ih (k + 1) (by omega)
      rw [St.gbn, hg, Bool.false_or, en] at nx
      have yes : (A.op (A.rs u + k) = 4 ∨ A.op (A.rs u + k) = 7 ∨ A.op (A.rs u + k) = 8) → ∀ y : Int, Rn d 40 44 [xR r, xI u, xI (A.rs u + k), xI y] [] g h Q := by
        intro z y
        have e : A.gbn (A.rs u) (k + 1) = true := by rw [St.gbn, hg, Bool.false_or]; exact decide_eq_true z
        have f := up n (k + 1) e
        unfold St.gby at hQ
        rw [show (A.rs (u + 1) - A.rs u).toNat = k + 1 + n by omega, f, bzt rfl] at hQ
        rw [B40_44, g11]
        exact hQ
      rw [B40_7, ga S.R.k0, S.R.p2, w32_id (by omega) (by omega), ga ⟨S.R.k1, by omega, by rw [S.R.l1]; omega⟩, e1, if_neg (by omega), ga S.R.k0, S.R.p3, ga ⟨S.R.k2, by omega, by rw [S.R.l2]; omega⟩, ec, code_lo ⟨o.2.2.1, o.2.2.2⟩ sr]
      have st : (stc (A.op (A.rs u + k)) = 1 ↔ A.op (A.rs u + k) = 4) ∧ (stc (A.op (A.rs u + k)) = 4 ↔ A.op (A.rs u + k) = 7) ∧ (stc (A.op (A.rs u + k)) = 5 ↔ A.op (A.rs u + k) = 8) := by
        unfold stc
        split
        · omega
        · split
          · omega
          · split <;> omega
      by_cases h1 : A.op (A.rs u + k) = 4
      · rw [if_pos (st.1.mpr h1)]; exact yes (Or.inl h1) _
      · rw [if_neg (fun z => h1 (st.1.mp z))]
        by_cases h2 : A.op (A.rs u + k) = 7
        · rw [if_pos (st.2.1.mpr h2)]; exact yes (Or.inr (Or.inl h2)) _
        · rw [if_neg (fun z => h2 (st.2.1.mp z))]
          by_cases h3 : A.op (A.rs u + k) = 8
          · rw [if_neg (fun z => z (st.2.2.mpr h3))]; exact yes (Or.inr (Or.inr h3)) _
          · rw [if_pos (fun z => h3 (st.2.2.mp z)), w32_id (by omega) (by omega)]
            exact nx (decide_eq_false (by omega)) _
  have z := lp (A.rs (u + 1) - A.rs u).toNat 0 (by omega) rfl xU
  rw [show A.rs u + ((0 : Nat) : Int) = A.rs u by omega] at z
  rw [E40, ga S.R.k0, S.R.p2, ga ⟨S.R.k1, by omega, by rw [S.R.l1]; omega⟩, e0]
  exact z
theorem S9 {g : KG} {h : KH} {l r : Int} {A : St} (J : CJ g h) (S : SR g h 6 l r A) (hl : l = 7 ∨ l = 39) (hr : r = 20 ∨ r = 52) (O : A.Ok) {s u : Int} (hs : ins A s) (hu : 0 ≤ u ∧ u < A.nr) {d : Nat} {Q : Option KV → KG → KH → Prop} (hQ : ∀ h2 : KH, (∀ c, c ≠ 35 → h2 c = h c) → h2 35 0 = 6 → Q (some (xI (A.rwo A.nq.toNat 0 0 (A.hid s u)))) g h2) : Cl (d + 14) 9 [xR 35, xI u, xI s] g h Q := by
  have h6 := O.nq
  have SS : ∀ h2 : KH, (∃ h0, SR g h0 6 l r A ∧ ∀ c, c ≠ 35 → h2 c = h0 c) → SR g h2 6 l r A := fun h2 ⟨h0, a, b⟩ => a.now hl hr (fun c _ _ _ => b c (by omega))
  rw [E9, ga J.k35]
  refine S11 J S hl hr O hs (fun h1 V1 f1 g1 => ?_)
  have S1 := SS h1 ⟨h, S, f1⟩
  rw [o0, List.nil_append, B9_5, ga J.k35, g1, ga S.k0, S1.pr, ga S.R.k0]
  refine S40 S1 O hu ?_
  have lp : ∀ n o : Nat, ∀ most : Int, (0 ≤ most ∧ most ≤ 6) → (o : Int) + n = most + 1 → A.hid s u = A.nea s u n o → ∀ (h2 : KH) (x : KV), JV h2 A s → (∀ c, c ≠ 35 → h2 c = h c) → h2 35 0 = 6 → Rn (d + 13) 9 37 [xR 35, xI u, xI s, xI most, xI (o : Int), x] [] g h2 Q := by
    intro n
    induction n with
    | zero =>
      intro o most hm ho hh h2 x V2 f2 g2
      rw [St.nea] at hh
      have hQ := hQ h2 f2 g2
      rw [hh] at hQ
      rw [B9_37, if_pos (by omega)]
      exact hQ
    | succ n ih =>
      intro o most hm ho hh h2 x V2 f2 g2
      have e1 : ((o : Int) + 1) = ((o + 1 : Nat) : Int) := by omega
      have S2 := SS h2 ⟨h, S, f2⟩
      have z := S10 (l := l) (r := r) SS J.k35 hl hr O hs hu A.nq.toNat 0 0 o (d + 7 - A.nq.toNat) h2 (fun r g1 h1 => Rn (d + 13) 9 52 [xR 35, xI u, xI s, xI most, xI (o : Int), x] (r.toList ++ []) g1 h1 Q) (by omega) (row_0 O) (by omega) S2 V2 g2
      rw [show d + 7 - A.nq.toNat + A.nq.toNat + 6 = d + 13 by omega] at z
      rw [B9_37, if_neg (by omega)]
      refine z (fun h3 V3 f3 g3 => ?_)
      rw [St.nea] at hh
      rw [o1, List.cons_append, List.nil_append, B9_52]
      cases hf : A.hfs s u A.nq.toNat 0 0 o with
      | none =>
        rw [hf] at hh
        show (if (-1 : Int) = -1 then _ else _)
        rw [if_pos rfl, w32_id (by omega) (by omega), e1]
        exact ih (o + 1) most hm (by omega) (by rw [hh, e1]) h3 _ V3 (fun c hc => by rw [f3 c hc, f2 c hc]) g3
      | some k =>
        rw [hf] at hh
        have ks := fstN_some _ _ hf
        have kr := pk_row O A.nq.toNat 0 k 0 (by omega) (row_0 O) ks.1
        have hne : ¬ A.rwo A.nq.toNat 0 0 (some k) = -1 := by
          show ¬ A.pk A.nq.toNat 0 k 0 = -1
          have := kr.1; omega
        rw [if_neg hne]
        have hQ := hQ h3 (fun c hc => by rw [f3 c hc, f2 c hc]) g3
        rw [hh] at hQ
        exact hQ
  rw [o1, List.cons_append, List.nil_append, B9_16]
  by_cases hg : A.gby u = true
  · rw [bzt hg, if_neg (by decide), ga J.k35, g1, ga S.k0, S1.pl, ga S.L.k0, S1.L.nq, B9_33]
    exact lp (A.nq.toNat + 1) 0 A.nq (by omega) (by omega) (by unfold St.hid; rw [if_pos hg]; rfl) h1 _ V1 f1 g1
  · rw [bzf hg, if_pos rfl, B9_33]
    exact lp 1 0 0 (by decide) (by omega) (by unfold St.hid; rw [if_neg hg]; rfl) h1 _ V1 f1 g1
theorem C123 {W : Wd} {u s : Int} : Cw 123 [xR 0, xI u, xI s] 15 W (W.hides u s) := by
  intro g h C d Q hQ
  have C0 := C
  obtain ⟨l, r, l2, r2, C1, C2, C3, C4, C5, C6, C7⟩ := C
  unfold Wd.hides at hQ
  have O := C7.O
  have S := C7.S
  have h6 := O.nq
  have h16 := O.ns
  have no : ¬ ((0 ≤ u ∧ u < W.cur.nr) ∧ 0 ≤ s ∧ s < W.cur.ns) → Rn (d + 14) 123 16 [xR 0, xI u, xI s, xU] [] g h Q := by
    intro z
    rw [if_neg z] at hQ
    rw [B123_16, ga C3.k0]
    simp only [S133 (k := C3.k0), S134 (k := C3.k0), S135 (k := C3.k0), S136 (k := C3.k0), o1, o0, List.cons_append, List.nil_append, B123_21]
    exact cst C0 hQ
  rw [E123, ga C3.k0, S144 C3 C7]
  by_cases hu : 0 ≤ u ∧ u < W.cur.nr
  · rw [bzt hu, o1, List.cons_append, List.nil_append, B123_5, if_neg (by decide), ga C3.k0, S143 C3 C7]
    by_cases hs : 0 ≤ s ∧ s < W.cur.ns
    · rw [if_pos ⟨hu, hs⟩] at hQ
      have hl : l = 7 ∨ l = 39 := by have := C7.l; omega
      have hr : r = 20 ∨ r = 52 := by have := C7.r; omega
      have klt := fun k => hid_lt (A := W.cur) (s := s) (u := u) ((if W.cur.gby u = true then W.cur.nq.toNat else 0) + 1) 0 k
      rw [bzt hs, o1, List.cons_append, List.nil_append, B123_13, if_pos (by decide), ga C3.k0, C3.p7, ga C2.k35]
      refine S9 C2 S hl hr O hs hu (fun h2 f2 g2 => ?_)
      have y0 : h2 0 = h 0 := f2 0 (by decide)
      have S2 : SR g h2 6 l r W.cur := S.now hl hr (fun c _ _ _ => f2 c (by omega))
      have C02 : CR g h2 W := by
        have U := C0.upd (h2 := h2) (fun a _ _ hq => by unfold qc at hq; exact f2 a (by omega)) (fun j _ _ _ => by rw [y0]) (by rw [g2, C2.p35])
        rw [y0, C3.stt, C3.top, C3.bot] at U
        exact U
      rw [o1, List.cons_append, List.nil_append, B123_31]
      unfold St.hid at hQ
      unfold St.hid
      cases hf : W.cur.nea s u ((if W.cur.gby u = true then W.cur.nq.toNat else 0) + 1) 0 with
      | none =>
        rw [hf] at hQ
        show (if (-1 : Int) ≠ -1 then _ else _)
        rw [if_neg (fun z => z rfl), ga C3.k0]
        simp only [S133 (k := C3.k0), S134 (k := C3.k0), S135 (k := C3.k0), S136 (k := C3.k0), o1, o0, List.cons_append, List.nil_append, B123_43]
        exact cst C02 (fun h3 a b => hQ h3 a (fun c hc => by rw [b c hc, f2 c (by omega)]))
      | some k =>
        rw [hf] at hQ
        have k1 := klt k hf
        have kr := pk_row O W.cur.nq.toNat 0 k 0 (by omega) (row_0 O) k1
        have er : W.cur.rwo W.cur.nq.toNat 0 0 (some k) = W.cur.pk W.cur.nq.toNat 0 k 0 := rfl
        have hQ : ∀ h2 : KH, CR g h2 (W.hmk (W.cur.pk W.cur.nq.toNat 0 k 0)) → (∀ a, (a < 0 ∨ 138 ≤ a) → h2 a = h a) → Q (some (xI (dif (W.cur.pa s) (W.cur.pk W.cur.nq.toNat 0 k 0) W.cur.nq.toNat))) g h2 := hQ
        rw [er]
        generalize W.cur.pk W.cur.nq.toNat 0 k 0 = p at *
        have ps := O.pa s hs
        have z6 : ∀ x, (hset h2 0 16 x) 6 = h2 6 := fun x => hset_a _ _ _ (by decide)
        have zl : ∀ x, (hset h2 0 16 x) l = h2 l := fun x => hset_a _ _ _ (by omega)
        rw [if_pos (by have := kr.1; omega), ga C3.k0, ga C3.k0, hset_i _ _ (by decide), y0, C3.p4, ga S.k0, z6, S2.pl, ga S.L.k0, zl, S2.L.nq]
        generalize eB : hset (hset h2 0 16 p) 0 17 W.cur.nq = hB
        have kB : ∀ c, c ≠ 0 → hB c = h2 c := fun c hc => by rw [← eB, hset_a _ _ _ hc, hset_a _ _ _ hc]
        have jB : ∀ j, j ≠ 16 → j ≠ 17 → hB 0 j = h 0 j := fun j j1 j2 => by rw [← eB, hset_i _ _ j2, hset_i _ _ j1, y0]
        rw [ga C3.k0, ga C3.k0, jB 4 (by decide) (by decide), C3.p4, ga S.k0, kB 6 (by decide), S2.n7, ga ⟨S.m27, hs.1, by rw [S.w27]; omega⟩, kB 27 (by decide), S2.v27 s hs, B123_74, S153 kr.1 kr.2.1 ps.1 ps.2.1, dif_up O kr ps, dif_c, o1, List.cons_append, List.nil_append, B123_77, ga C3.k0]
        simp only [S133 (k := C3.k0), S134 (k := C3.k0), S135 (k := C3.k0), S136 (k := C3.k0), o1, o0, List.cons_append, List.nil_append, B123_80]
        generalize eF : hset hB 0 11 0 = hF
        have kF : ∀ c, c ≠ 0 → c ≠ 35 → hF c = h c := fun c c1 c2 => by rw [← eF, hset_a _ _ _ c1, kB c c1, f2 c c2]
        have jF : ∀ j, j ≠ 11 → j ≠ 16 → j ≠ 17 → hF 0 j = h 0 j := fun j j1 j2 j3 => by rw [← eF, hset_i _ _ j1, jB j j2 j3]
        have v16 : hF 0 16 = p := by rw [← eF, hset_i _ _ (by decide), ← eB, hset_i _ _ (by decide), hset_e]
        have v17 : hF 0 17 = W.cur.nq := by rw [← eF, hset_i _ _ (by decide), ← eB, hset_e]
        have v35 : hF 35 0 = 6 := by rw [← eF, hset_a _ _ _ (by decide), kB 35 (by decide), g2]
        refine hQ hF ⟨l, r, l2, r2, C1.keepg (kF 1 (by decide) (by decide)) (by rw [kF 2 (by decide) (by decide)]) (by rw [kF 4 (by decide) (by decide)]) (by rw [kF 5 (by decide) (by decide)]) (kF 31 (by decide) (by decide)) (kF 32 (by decide) (by decide)) (kF 36 (by decide) (by decide)) (fun t t0 t1 => by rw [kF _ (by omega) (by omega)]), ⟨C2.k35, v35⟩, ?_, C4.keep (fun a _ _ => kF a (by omega) (by omega)), ⟨by rw [kF 2 (by decide) (by decide)]; exact C5.fed, C5.f7, by rw [kF 3 (by decide) (by decide)]; exact C5.tp, by rw [jF 15 (by decide) (by decide) (by decide), kF 2 (by decide) (by decide)]; exact C5.fa, C5.tb⟩, C6.keep (fun a _ _ => kF a (by omega) (by omega)), C7.keep (fun a _ _ _ => kF a (by omega) (by omega))⟩ (fun a ha => kF a (by omega) (by omega))
        exact ⟨C3.k0, by rw [jF 0 (by decide) (by decide) (by decide)]; exact C3.p0, by rw [jF 1 (by decide) (by decide) (by decide)]; exact C3.p1, by rw [jF 2 (by decide) (by decide) (by decide)]; exact C3.p2, by rw [jF 3 (by decide) (by decide) (by decide)]; exact C3.p3, by rw [jF 4 (by decide) (by decide) (by decide)]; exact C3.p4, by rw [jF 5 (by decide) (by decide) (by decide)]; exact C3.p5, by rw [jF 6 (by decide) (by decide) (by decide)]; exact C3.p6, by rw [jF 7 (by decide) (by decide) (by decide)]; exact C3.p7, by rw [jF 8 (by decide) (by decide) (by decide)]; exact C3.p8, by rw [jF 9 (by decide) (by decide) (by decide)]; exact C3.p9, by rw [jF 10 (by decide) (by decide) (by decide)]; exact C3.p10, by rw [← eF, hset_e]; rfl, by rw [jF 12 (by decide) (by decide) (by decide)]; exact C3.top, by rw [jF 13 (by decide) (by decide) (by decide)]; exact C3.bot, by rw [jF 14 (by decide) (by decide) (by decide)]; exact C3.nmk, C3.nm3, v17, Or.inr ⟨h6.1, h6.2, fun q _ _ => by rw [v16]; rfl⟩, by rw [jF 18 (by decide) (by decide) (by decide)]; exact C3.fs⟩
    · rw [bzf hs, o1, List.cons_append, List.nil_append, B123_13, if_neg (by decide)]
      exact no (fun z => hs z.2)
  · rw [bzf hu, o1, List.cons_append, List.nil_append, B123_5, if_pos rfl]
    exact no (fun z => hu z.1)
