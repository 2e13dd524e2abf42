/-! the call rules, on the class's side -/
theorem S42 {g : KG} (G : GT g) (k5 : gK g 5 = 6) {h : KH} {r : Int} (hr : r = 20 ∨ r = 52) (rk : RK g h r) (rz : h (r + 1) 0 = 0) (h50 : h 5 0 = 2) (h20 : h 2 0 = 3) {t : Int → Int} {n : Nat} (ht : ∀ k : Nat, k < n → h 3 (k : Int) = t (k : Int)) (n3 : n ≤ 300) {d : Nat} {Q : Option KV → KG → KH → Prop} (hf : ∀ (k pl : Int), sRules t n 301 PR.empty (skp t n 0) = .inr (k, pl) → ∀ h2 : KH, FR r h h2 → RJ g h2 r → KF h2 n k pl → Q (some (xI 0)) g h2) (hl : ∀ (C : PR) (p : Nat), sRules t n 301 PR.empty (skp t n 0) = .inl C → C.Ok2 p → p ≤ n → ∀ h2 : KH, FR r h h2 → RI g h2 r C → KP h2 t n p → Q (some (xI 1)) g h2) : Cl (d + 34) 42 [xR 5, xR r, xI (n : Int)] g h Q := by
  have H43 : HP g 43 r t n (sTerms t n (sTest t n 8)) 0 (3 * 8 + 5 + 1 + 1) := S43 G k5 hr n3 (GF.test 8) (by omega) (S44 G k5 hr n3 (GF.test 8) (by omega) (HP.of (by omega) rfl (bl G k5 hr n3 8 (by omega))))
  have exF : ∀ (h1 : KH) (a3 kk pl : Int), RJ g h1 r → KF h1 n kk pl → Q (some (xI 0)) g h1 → Rn (d + 33) 42 19 [xR 5, xR r, xI (n : Int), xI a3] [] g h1 Q := by
    intro h1 a3 kk pl J T q
    have b : Rn (d + 33) 42 113 [xR 5, xR r, xI (n : Int), xI a3] [] g h1 Q := by
      rw [B42_113, ga k5, J.r0, ga G.k2]
      refine F74 G T ?_
      rw [o1, List.cons_append, List.nil_append, B42_120, ga (by decide)]
      exact q
    rw [B42_19]
    split
    · exact b
    · rw [ga k5, J.r0, ga G.k2]
      refine F75 G T ?_
      rw [o1, List.cons_append, List.nil_append, B42_33, if_pos rfl]
      exact b
  have lp : ∀ (m : Nat) (a3 : Nat) (h1 : KH) (C : PR) (p : Nat), a3 + m = 300 → a3 ≤ p → FR r h h1 → RI g h1 r C → KP h1 t n p → C.Ok2 p → (∀ (k pl : Int), sRules t n (m + 1) C p = .inr (k, pl) → ∀ h2 : KH, FR r h h2 → RJ g h2 r → KF h2 n k pl → Q (some (xI 0)) g h2) → (∀ (C2 : PR) (p2 : Nat), sRules t n (m + 1) C p = .inl C2 → C2.Ok2 p2 → p2 ≤ n → ∀ h2 : KH, FR r h h2 → RI g h2 r C2 → KP h2 t n p2 → Q (some (xI 1)) g h2) → Rn (d + 33) 42 19 [xR 5, xR r, xI (n : Int), xI (a3 : Int)] [] g h1 Q := by
    intro m
    have stop : ∀ (m a3 : Nat) (h1 : KH) (C : PR) (p : Nat), FR r h h1 → RI g h1 r C → KP h1 t n p → C.Ok2 p → kd t n p = 0 → (∀ (C2 : PR) (p2 : Nat), sRules t n (m + 1) C p = .inl C2 → C2.Ok2 p2 → p2 ≤ n → ∀ h2 : KH, FR r h h2 → RI g h2 r C2 → KP h2 t n p2 → Q (some (xI 1)) g h2) → Rn (d + 33) 42 113 [xR 5, xR r, xI (n : Int), xI (a3 : Int)] [] g h1 Q := by
      intro m a3 h1 C p F I T O z hl
      rw [B42_113, ga k5, I.r0, ga G.k2]
      refine T74 G T ?_
      rw [o1, List.cons_append, List.nil_append, B42_120, ga (by decide)]
      exact hl C p (by rw [sRules, if_pos z]) O T.td.pn h1 F I T
    induction m with
    | zero =>
      intro a3 h1 C p ha hp F I T O hf hl
      have pn := T.td.pn
      rw [B42_19, if_pos (by omega)]
      exact stop 0 a3 h1 C p F I T O (kd_e (by omega)) hl
    | succ m ih =>
      intro a3 h1 C p ha hp F I T O hf hl
      have pn := T.td.pn
      have e1 : ((a3 : Int) + 1) = ((a3 + 1 : Nat) : Int) := by omega
      have wd := T.td.wd
      have k0 := kyr_0 (wdv t n p)
      have J := I.j O.ok (by have := O.l; omega)
      rw [B42_19, if_neg (by omega), ga k5, I.r0, ga G.k2]
      refine T75 G T ?_
      rw [o1, List.cons_append, List.nil_append, B42_33]
      by_cases z : kd t n p = 0
      · rw [bzf (fun y => y z), if_pos rfl]
        exact stop (m + 1) a3 h1 C p F I T O z hl
      rw [bzt z, if_neg (by decide), ga k5, I.r0, ga G.k2, wd]
      simp only [c64eq, ne_eq]
      have bad : ∀ (k pl a3 : Int) (h2 : KH), sRules t n (m + 1 + 1) C p = .inr (k, pl) → FR r h h2 → RJ g h2 r → KF h2 n k pl → Rn (d + 33) 42 107 [xR 5, xR r, xI (n : Int), xI a3] [] g h2 Q := by
        intro k pl a3 h2 e F2 J2 X
        rw [B42_107]
        exact exF h2 _ k pl J2 X (hf k pl e h2 F2 J2 X)
      by_cases y : kyr (wdv t n p) = 0
      case neg =>
        rw [if_neg (fun x => y (by rw [k0]; exact x)), ga k5, ga G.k2]
        refine T78 G T (by decide) (fun h2 f2 X => ?_)
        rw [o0, List.nil_append, B42_58]
        exact bad _ _ _ h2 (by rw [sRules, if_neg z, if_pos y]) (F.tok f2) (J.tok hr f2) X
      rw [if_pos (by rw [← k0]; exact y), ga I.rk.k0, I.nr]
      by_cases c : C.A.nr < 4
      case neg =>
        rw [if_neg c, ga k5, ga G.k2]
        refine T78 G T (by decide) (fun h2 f2 X => ?_)
        rw [o0, List.nil_append, B42_78]
        exact bad _ _ _ h2 (by rw [sRules, if_neg z, if_neg (fun x => x y), if_pos (by omega)]) (F.tok f2) (J.tok hr f2) X
      have es : sRules t n (m + 1 + 1) C p = match sTerms t n (sTest t n 8) C (nxt t n p) with
          | .inr f => .inr f
          | .inl (C2, p2) => if sgnD t n p2 59 then sRules t n (m + 1) C2.end_ (nxt t n p2) else .inr (flt t n p2 2, (p2 : Int)) := by
        rw [sRules, if_neg z, if_neg (fun x => x y), if_neg (by omega)]
        rfl
      have q := nxt_r t pn
      rw [if_pos c, ga k5, ga G.k2]
      refine T79 G T (fun h2 f2 T2 => ?_)
      have I2 := I.tok hr f2
      have F2 := F.tok f2
      have ol := O.l
      rw [o0, List.nil_append, B42_88, ga k5]
      refine H43.1 (d + 33) (by omega) h2 C _ _ I2 T2 O.ok (by omega) ⟨fun k pl h3 e F3 J3 X => ?_, fun C3 p3 h3 e F3 I3 T3 => ?_⟩
      · rw [e] at es
        rw [o0, List.nil_append, B42_94, ga k5, J3.r0, ga G.k2]
        refine F84 G X (fun h4 f4 X4 => ?_)
        have J4 := J3.tok hr f4
        rw [o0, List.nil_append, B42_103, ga J4.rk.k0]
        refine J39 hr J4 (fun h5 f5 J5 => ?_)
        rw [o0, List.nil_append]
        exact bad k pl _ h5 es (((F2.tr F3).tok f4).tr (fun a a2 a5 al => f5 a (by omega) (by omega))) J5 (X4.keep (f5 2 (by omega) (by omega)))
      · rw [e] at es
        have gr := (GF.test (t := t) 8).terms _ _ _ _ e q.2.1 O.ok
        have gl := gr.ln
        have ge := gr.le
        have gt := gr.lt
        have gd := gr.d
        have od := O.d
        have gn := gr.nr
        have onr := O.ok.nr
        have en := gr.ok.end_ (by omega) (by omega)
        rw [o0, List.nil_append, B42_94, ga k5, I3.r0, ga G.k2]
        refine T84 G T3 (fun y2 h4 f4 X4 => ?_) (fun y2 h4 f4 T4 => ?_)
        · have J4 := (I3.j gr.ok (by omega)).tok hr f4
          rw [o0, List.nil_append, B42_103, ga J4.rk.k0]
          refine J39 hr J4 (fun h5 f5 J5 => ?_)
          rw [o0, List.nil_append]
          exact bad _ _ _ h5 (by rw [es]; exact if_neg y2) (((F2.tr F3).tok f4).tr (fun a a2 a5 al => f5 a (by omega) (by omega))) J5 (X4.keep (f5 2 (by omega) (by omega)))
        · have I4 := I3.tok hr f4
          have q2 := nxt_r t ge
          have es2 : sRules t n (m + 1 + 1) C p = sRules t n (m + 1) C3.end_ (nxt t n p3) := by rw [es]; exact if_pos y2
          rw [o0, List.nil_append, B42_103, ga I4.rk.k0]
          refine S39 hr I4 gr.ok (by omega) (fun h5 f5 I5 => ?_)
          rw [o0, List.nil_append, B42_107, w32_id (by omega) (by omega), e1]
          refine ih (a3 + 1) h5 C3.end_ (nxt t n p3) (by omega) (by omega) (((F2.tr F3).tok f4).tr (fun a a2 a5 al => f5 a (by omega) (by omega))) I5 (T4.keep (f5 2 (by omega) (by omega)) (f5 3 (by omega) (by omega))) ⟨en.1, en.2, ?_⟩ (fun k pl e3 => hf k pl (by rw [es2]; exact e3)) (fun C4 p4 e3 => hl C4 p4 (by rw [es2]; exact e3))
          show 2 * C3.ln ≤ _
          omega
  rw [E42, ga rk.k0, E36, ga rk.k0, ga rk.k0, o0, List.nil_append, B42_4, ga k5, ga k5]
  have fa : ∀ a, a ≠ r → a ≠ 5 → hset (hset (hset h r 0 0) r 1 0) 5 1 0 a = h a := fun a a0 a5 => by rw [hset_a _ _ _ a5, hset_a _ _ _ a0, hset_a _ _ _ a0]
  have fr : ∀ j, j ≠ 0 → j ≠ 1 → hset (hset (hset h r 0 0) r 1 0) 5 1 0 r j = h r j := fun j j0 j1 => by rw [hset_a _ _ _ (by omega), hset_i _ _ j1, hset_i _ _ j0]
  have v0 : hset (hset (hset h r 0 0) r 1 0) 5 1 0 r 0 = 0 := by rw [hset_a _ _ _ (by omega), hset_i _ _ (by decide), hset_e]
  have v1 : hset (hset (hset h r 0 0) r 1 0) 5 1 0 r 1 = 0 := by rw [hset_a _ _ _ (by omega), hset_e]
  have w0 : hset (hset (hset h r 0 0) r 1 0) 5 1 0 5 0 = 2 := by rw [hset_i _ _ (by decide), hset_a _ _ _ (by omega), hset_a _ _ _ (by omega)]; exact h50
  have w1 : hset (hset (hset h r 0 0) r 1 0) 5 1 0 5 1 = 0 := hset_e _ _ _ _
  generalize hset (hset (hset h r 0 0) r 1 0) 5 1 0 = h1 at *
  have I1 : RI g h1 r PR.empty := ⟨by
    have K := rk
    unfold RK at K ⊢
    rw [fr 2 (by decide) (by decide), fr 3 (by decide) (by decide)]
    exact K, v0, v1, fun i i0 i1 => by
    have i1 : i ≤ 0 := i1
    rw [show i = 0 by omega, fa (r + 1) (by omega) (by omega)]; exact rz, fun k k0 k1 => absurd k1 (by show ¬ k < 0; omega), w0, w1, by rw [fa (r + 1) (by omega) (by omega)]; exact rz⟩
  have F1 : FR r h h1 := fun a a2 a5 al => fa a (by omega) a5
  rw [w0, ga G.k2]
  refine S73 G (t := t) (fun k hk => by rw [fa 3 (by omega) (by decide)]; exact ht k hk) (by omega) (by rw [fa 2 (by omega) (by decide)]; exact h20) (fun h2 f2 T2 => ?_)
  rw [o0, List.nil_append, B42_17]
  exact lp 300 0 h2 PR.empty _ (by omega) (by omega) (F1.tok f2) (I1.tok hr f2) T2 ⟨PR.empty_ok, rfl, by show 2 * (0 : Int) ≤ _; omega⟩ hf hl
theorem C99 {W : Wd} {n : Int} : Cw 99 [xR 0, xI n] 36 W (W.rules n) := by
  intro g h C d Q hQ
  have C0 := C
  obtain ⟨l, r, l2, r2, C1, C2, C3, C4, C5, C6, C7⟩ := C
  unfold Wd.rules at hQ
  have O := C7.O
  have S := C7.S
  have f7 := C5.f7
  have hlr := C7.l
  have hrr := C7.r
  have hr : r2 = 20 ∨ r2 = 52 := by omega
  have G : GT g := ⟨C1.k2, C1.k3, C1.l3⟩
  have no : ¬ (0 ≤ n ∧ n ≤ W.fed ∧ n ≤ 300) → Rn (d + 35) 99 24 [xR 0, xI n, xU] [] g h Q := by
    intro z
    rw [if_neg z] at hQ
    rw [B99_24, ga C3.k0]
    simp only [S133 (k := C3.k0), S134 (k := C3.k0), S135 (k := C3.k0), S136 (k := C3.k0), o1, o0, List.cons_append, List.nil_append, B99_29]
    exact cst C0 hQ
  rw [E99, ga C3.k0, C3.p1, ga C1.k2, C5.fed, S146]
  by_cases hn : 0 ≤ n ∧ n ≤ W.fed
  case neg =>
    rw [bzf hn, o1, List.cons_append, List.nil_append, B99_14, if_pos rfl]
    exact no (fun z => hn ⟨z.1, z.2.1⟩)
  rw [bzt hn, o1, List.cons_append, List.nil_append, B99_14, if_neg (by decide)]
  by_cases h3 : n ≤ 300
  case neg =>
    rw [if_neg h3]
    exact no (fun z => h3 z.2.2)
  clear no
  rw [if_pos ⟨hn.1, hn.2, h3⟩] at hQ
  obtain ⟨m, hm⟩ : ∃ m : Nat, n = (m : Int) := ⟨n.toNat, by omega⟩
  subst hm
  have m3 : m ≤ 300 := by omega
  have eR : rulesR W (m : Int) = sRules W.tp m 301 PR.empty (skp W.tp m 0) := rfl
  rw [eR] at hQ
  have x3 : hset h 0 15 1 0 3 = 5 := by rw [hset_i _ _ (by decide)]; exact C3.p3
  have x10 : hset h 0 15 1 0 10 = r2 := by rw [hset_i _ _ (by decide)]; exact C3.p10
  rw [if_pos h3, ga ⟨C3.k0, by decide, by decide⟩, ga C3.k0, ga C3.k0, x3, x10, ga C1.k5]
  have k1 : ∀ a, a ≠ 0 → (hset h 0 15 1) a = h a := fun a ha => hset_a _ _ _ ha
  have j1 : ∀ j, j ≠ 15 → (hset h 0 15 1) 0 j = h 0 j := fun j hj => hset_i _ _ hj
  have v15 : hset h 0 15 1 0 15 = 1 := hset_e _ _ _ _
  generalize hset h 0 15 1 = h1 at *
  refine S42 G C1.k5 hr (C7.rk.keep (fun a x0 x1 => k1 a (by omega))) (by rw [k1 _ (by omega)]; exact C7.rz) (by rw [k1 5 (by decide)]; exact C1.p5) (by rw [k1 2 (by decide)]; exact C1.p2) (t := W.tp) (fun k hk => by rw [k1 3 (by decide)]; exact C5.tp k (by omega) (by omega)) m3 (fun k pl ez h2 F2 J2 X2 => ?_) (fun C p ez P2 pm h2 F2 I2 T2 => ?_)
  · -- a fault
    rw [ez] at hQ
    have kF : ∀ a, a ≠ 0 → a ≠ 2 → a ≠ 5 → (a < r2 ∨ r2 + 2 < a) → h2 a = h a := fun a a0 a2 a5 al => by rw [F2 a a2 a5 al, k1 a a0]
    have y0 : h2 0 = h1 0 := F2 0 (by decide) (by decide) (by omega)
    rw [o1, List.cons_append, List.nil_append, B99_47, if_neg (fun y => y rfl), ga C3.k0, S133 (k := C3.k0), o1, List.cons_append, List.nil_append, B99_56]
    generalize eF : hset h2 0 11 9 = hF
    have gF : ∀ a, a ≠ 0 → hF a = h2 a := fun a ha => by rw [← eF, hset_a _ _ _ ha]
    have jF : ∀ j, j ≠ 11 → j ≠ 15 → hF 0 j = h 0 j := fun j a b => by rw [← eF, hset_i _ _ a, y0, j1 j b]
    have w15 : hF 0 15 = 1 := by rw [← eF, hset_i _ _ (by decide), y0, v15]
    refine hQ hF ⟨l, r, l2, r2, C1.keepg (by rw [gF 1 (by decide), kF 1 (by decide) (by decide) (by decide) (by omega)]) (by rw [gF 2 (by decide), X2.t0, C1.p2]) (by rw [gF 4 (by decide), kF 4 (by decide) (by decide) (by decide) (by omega)]) (by rw [gF 5 (by decide), J2.r0, C1.p5]) (by rw [gF 31 (by decide), kF 31 (by decide) (by decide) (by decide) (by omega)]) (by rw [gF 32 (by decide), kF 32 (by decide) (by decide) (by decide) (by omega)]) (by rw [gF 36 (by decide), kF 36 (by decide) (by decide) (by decide) (by omega)]) (fun t t0 t1 => by rw [gF _ (by omega), kF _ (by omega) (by omega) (by omega) (by omega)]), ⟨C2.k35, by rw [gF 35 (by decide), kF 35 (by decide) (by decide) (by decide) (by omega)]; exact C2.p35⟩, ?_, C4.keep (fun a _ _ => by rw [gF a (by omega), kF a (by omega) (by omega) (by omega) (by omega)]), ?_, C6.keep (fun a _ _ => by rw [gF a (by omega), kF a (by omega) (by omega) (by omega) (by omega)]), ?_⟩ (fun a ha => by rw [gF a (by omega), kF a (by omega) (by omega) (by omega) (by omega)])
    · exact ⟨C3.k0, by rw [jF 0 (by decide) (by decide)]; exact C3.p0, by rw [jF 1 (by decide) (by decide)]; exact C3.p1, by rw [jF 2 (by decide) (by decide)]; exact C3.p2, by rw [jF 3 (by decide) (by decide)]; exact C3.p3, by rw [jF 4 (by decide) (by decide)]; exact C3.p4, by rw [jF 5 (by decide) (by decide)]; exact C3.p5, by rw [jF 6 (by decide) (by decide)]; exact C3.p6, by rw [jF 7 (by decide) (by decide)]; exact C3.p7, by rw [jF 8 (by decide) (by decide)]; exact C3.p8, by rw [jF 9 (by decide) (by decide)]; exact C3.p9, by rw [jF 10 (by decide) (by decide)]; exact C3.p10, by rw [← eF, hset_e]; rfl, by rw [jF 12 (by decide) (by decide)]; exact C3.top, by rw [jF 13 (by decide) (by decide)]; exact C3.bot, by rw [jF 14 (by decide) (by decide)]; exact C3.nmk, C3.nm3, by rw [jF 17 (by decide) (by decide)]; exact C3.hm, by rw [jF 16 (by decide) (by decide)]; exact C3.hd, by rw [jF 18 (by decide) (by decide)]; exact C3.fs⟩
    · exact ⟨by rw [gF 2 (by decide), X2.fd]; rfl, by show (0 : Int) ≤ 0 ∧ (0 : Int) ≤ 700; decide, fun k k0 k1 => absurd k1 (by show ¬ k < 0; omega), Or.inr ⟨w15, by rw [gF 2 (by decide), X2.fk]; rfl, by rw [gF 2 (by decide), X2.fp]; rfl⟩, fun k k0 k1 => absurd k1 (by show ¬ k < 0; omega)⟩
    · refine ⟨C7.l, C7.r, C7.S.keep (by rw [gF 6 (by decide), kF 6 (by decide) (by decide) (by decide) (by omega)]) (fun a x0 x1 => by rw [gF a (by omega), kF a (by omega) (by omega) (by omega) (by omega)]) (fun a x0 x1 => by rw [gF a (by omega), kF a (by omega) (by omega) (by omega) (by omega)]) (fun a x0 x1 => by rw [gF a (by omega), kF a (by omega) (by omega) (by omega) (by omega)]), C7.O, C7.lk.keep (fun a x0 x1 => by rw [gF a (by omega), kF a (by omega) (by omega) (by omega) (by omega)]), C7.tl.keep (fun a x0 x1 => by rw [gF a (by omega), kF a (by omega) (by omega) (by omega) (by omega)]), C7.tm.keep (fun a x0 x1 => by rw [gF a (by omega), kF a (by omega) (by omega) (by omega) (by omega)]), J2.rk.keep (fun a x0 x1 => gF a (by omega)), by rw [gF _ (by omega)]; exact J2.rz⟩
  · -- rules
    rw [ez] at hQ
    have kF : ∀ a, a ≠ 0 → a ≠ 2 → a ≠ 5 → (a < r2 ∨ r2 + 2 < a) → h2 a = h a := fun a a0 a2 a5 al => by rw [F2 a a2 a5 al, k1 a a0]
    have y0 : h2 0 = h1 0 := F2 0 (by decide) (by decide) (by omega)
    have y6 : h2 6 = h 6 := kF 6 (by decide) (by decide) (by decide) (by omega)
    have z4 : h2 0 4 = 6 := by rw [y0, j1 4 (by decide)]; exact C3.p4
    have z10 : h2 0 10 = r2 := by rw [y0, j1 10 (by decide)]; exact C3.p10
    have z61 : h2 6 1 = r := by rw [y6]; exact S.pr
    have u4 : ∀ a b, hset (hset h2 6 1 a) 0 10 b 0 4 = 6 := fun a b => by rw [hset_i _ _ (by decide), hset_a _ _ _ (by decide), z4]
    have u6 : ∀ a b, hset (hset h2 6 1 a) 0 10 b 6 1 = a := fun a b => by rw [hset_a _ _ _ (by decide), hset_e]
    have rr0 : gK g r2 = 5 := I2.rk.k0
    rw [o1, List.cons_append, List.nil_append, B99_47, if_pos (by decide), ga C3.k0, z4, ga S.k0, z61, ga (by omega), ga C3.k0, ga C3.k0, z10, ga ⟨S.k0, by omega⟩, ga ⟨C3.k0, by omega⟩, ga C3.k0, u4, ga S.k0, u6, ga rr0, ga C3.k0, S135 (k := C3.k0), o1, List.cons_append, List.nil_append, B99_95]
    generalize eG : hset (hset h2 6 1 r2) 0 10 r = hG
    have gG : ∀ a, a ≠ 0 → a ≠ 6 → hG a = h2 a := fun a a0 a6 => by rw [← eG, hset_a _ _ _ a0, hset_a _ _ _ a6]
    have g0 : ∀ j, j ≠ 10 → hG 0 j = h2 0 j := fun j hj => by rw [← eG, hset_i _ _ hj, hset_a _ _ _ (by decide)]
    have g10 : hG 0 10 = r := by rw [← eG, hset_e]
    have g6 : ∀ j, j ≠ 1 → hG 6 j = h 6 j := fun j j1 => by rw [← eG, hset_a _ _ _ (by decide), hset_i _ _ j1, y6]
    have g61 : hG 6 1 = r2 := by rw [← eG, hset_a _ _ _ (by decide), hset_e]
    clear eG u4 u6
    have enr : hG r2 0 = C.A.nr := by rw [gG r2 (by omega) (by omega)]; exact I2.nr
    rw [enr]
    generalize eF : hset hG 0 11 0 = hF
    have gF : ∀ a, a ≠ 0 → a ≠ 6 → hF a = h2 a := fun a ha a6 => by rw [← eF, hset_a _ _ _ ha, gG a ha a6]
    have f6 : hF 6 = hG 6 := by rw [← eF, hset_a _ _ _ (by decide)]
    have jF : ∀ j, j ≠ 10 → j ≠ 11 → j ≠ 15 → hF 0 j = h 0 j := fun j c a b => by rw [← eF, hset_i _ _ a, g0 j c, y0, j1 j b]
    have w15 : hF 0 15 = 1 := by rw [← eF, hset_i _ _ (by decide), g0 15 (by decide), y0, v15]
    have w10 : hF 0 10 = r := by rw [← eF, hset_i _ _ (by decide), g10]
    have w11 : hF 0 11 = 0 := by rw [← eF, hset_e]
    have kG : ∀ a, a ≠ 0 → a ≠ 2 → a ≠ 5 → a ≠ 6 → (a < r2 ∨ r2 + 2 < a) → hF a = h a := fun a a0 a2 a5 a6 al => by rw [gF a a0 a6, kF a a0 a2 a5 al]
    refine hQ hF ⟨l, r2, l2, r, C1.keepg (by rw [kG 1 (by decide) (by decide) (by decide) (by decide) (by omega)]) (by rw [gF 2 (by decide) (by decide), T2.t0, C1.p2]) (by rw [kG 4 (by decide) (by decide) (by decide) (by decide) (by omega)]) (by rw [gF 5 (by decide) (by decide), I2.r0, C1.p5]) (by rw [kG 31 (by decide) (by decide) (by decide) (by decide) (by omega)]) (by rw [kG 32 (by decide) (by decide) (by decide) (by decide) (by omega)]) (by rw [kG 36 (by decide) (by decide) (by decide) (by decide) (by omega)]) (fun t t0 t1 => by rw [kG _ (by omega) (by omega) (by omega) (by omega) (by omega)]), ⟨C2.k35, by rw [kG 35 (by decide) (by decide) (by decide) (by decide) (by omega)]; exact C2.p35⟩, ?_, C4.keep (fun a _ _ => by rw [kG a (by omega) (by omega) (by omega) (by omega) (by omega)]), ?_, C6.keep (fun a _ _ => by rw [kG a (by omega) (by omega) (by omega) (by omega) (by omega)]), ?_⟩ (fun a ha => by rw [kG a (by omega) (by omega) (by omega) (by omega) (by omega)])
    · exact ⟨C3.k0, by rw [jF 0 (by decide) (by decide) (by decide)]; exact C3.p0, by rw [jF 1 (by decide) (by decide) (by decide)]; exact C3.p1, by rw [jF 2 (by decide) (by decide) (by decide)]; exact C3.p2, by rw [jF 3 (by decide) (by decide) (by decide)]; exact C3.p3, by rw [jF 4 (by decide) (by decide) (by decide)]; exact C3.p4, by rw [jF 5 (by decide) (by decide) (by decide)]; exact C3.p5, by rw [jF 6 (by decide) (by decide) (by decide)]; exact C3.p6, by rw [jF 7 (by decide) (by decide) (by decide)]; exact C3.p7, by rw [jF 8 (by decide) (by decide) (by decide)]; exact C3.p8, by rw [jF 9 (by decide) (by decide) (by decide)]; exact C3.p9, w10, by rw [w11]; rfl, by rw [jF 12 (by decide) (by decide) (by decide)]; exact C3.top, by rw [jF 13 (by decide) (by decide) (by decide)]; exact C3.bot, by rw [jF 14 (by decide) (by decide) (by decide)]; exact C3.nmk, C3.nm3, by rw [jF 17 (by decide) (by decide) (by decide)]; exact C3.hm, by rw [jF 16 (by decide) (by decide) (by decide)]; exact C3.hd, by rw [jF 18 (by decide) (by decide) (by decide)]; exact C3.fs⟩
    · exact ⟨by rw [gF 2 (by decide) (by decide), T2.fd]; rfl, by show (0 : Int) ≤ 0 ∧ (0 : Int) ≤ 700; decide, fun k k0 k1 => absurd k1 (by show ¬ k < 0; omega), Or.inr ⟨w15, by rw [gF 2 (by decide) (by decide), T2.fk]; rfl, by rw [gF 2 (by decide) (by decide), T2.fp]; rfl⟩, fun k k0 k1 => absurd k1 (by show ¬ k < 0; omega)⟩
    · have LF : LR g hF l W.cur := S.L.keep (fun a x0 x1 => kG a (by omega) (by omega) (by omega) (by omega) (by omega))
      have IF_ : RI g hF r2 C := I2.keep (fun a ha => gF a (by omega) (by omega))
      have pe := P2.e
      have RF : RR g hF r2 (C.A.rls W.cur) := ⟨IF_.rk, IF_.nr, by rw [IF_.ln]; exact pe.symm, IF_.rs, fun k k0 k1 => IF_.cd k k0 (by have k1 : k < C.A.rs C.A.nr := k1; omega)⟩
      have SF : SK g hF 6 := by
        have Z := S.to_
        unfold SK at Z ⊢
        rw [f6, g6 3 (by decide), g6 4 (by decide), g6 5 (by decide), g6 6 (by decide), g6 7 (by decide), g6 8 (by decide), g6 9 (by decide), g6 10 (by decide)]
        exact Z
      have RO : RK g hF r := S.R.to_.keep (fun a x0 x1 => kG a (by omega) (by omega) (by omega) (by omega) (by omega))
      have rz : hF (r + 1) 0 = 0 := by
        rw [kG (r + 1) (by omega) (by omega) (by omega) (by omega) (by omega)]
        exact (S.R.rs 0 (by decide) O.nr.1).trans O.rs0
      have z : ∀ a, 23 ≤ a → a ≤ 30 → hF a = h a := fun a x0 x1 => kG a (by omega) (by omega) (by omega) (by omega) (by omega)
      exact ⟨hlr, by omega, ⟨SF, by rw [f6, g6 0 (by decide)]; exact S.pl, by rw [f6]; exact g61, LF, RF, by rw [f6, g6 2 (by decide)]; exact S.ns, by rw [z (6 + 17) (by decide) (by decide)]; exact S.ask, by rw [z (6 + 18) (by decide) (by decide)]; exact S.dr, by rw [z (6 + 19) (by decide) (by decide)]; exact S.fr, by rw [z (6 + 20) (by decide) (by decide)]; exact S.tt, by rw [z (6 + 21) (by decide) (by decide)]; exact S.pa, by rw [z (6 + 22) (by decide) (by decide)]; exact S.cd, by rw [z (6 + 23) (by decide) (by decide)]; exact S.tr, by rw [z (6 + 24) (by decide) (by decide)]; exact S.hf⟩, P2.rls (by omega) O, C7.lk.keep (fun a x0 x1 => kG a (by omega) (by omega) (by omega) (by omega) (by omega)), C7.tl.keep (fun a x0 x1 => kG a (by omega) (by omega) (by omega) (by omega) (by omega)), C7.tm.keep (fun a x0 x1 => kG a (by omega) (by omega) (by omega) (by omega) (by omega)), RO, rz⟩
