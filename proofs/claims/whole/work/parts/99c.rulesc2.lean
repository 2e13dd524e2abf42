/-! a TEST, on the class's side -/
def ntsP : Nat → PR → PR
  | 0, C => C
  | i + 1, C => ntsP i (C.emit 3 0)
def nts (i : Nat) (z : RRz) : RRz := match z with
  | .inr f => .inr f
  | .inl (C2, p2) => .inl (ntsP i C2, p2)
theorem nts_r {i : Nat} {z : RRz} {f : Int × Int} (e : z = .inr f) : nts i z = .inr f := by rw [e]; rfl
theorem nts_l {i : Nat} {z : RRz} {C : PR} {p : Nat} (e : z = .inl (C, p)) : nts i z = .inl (ntsP i C, p) := by rw [e]; rfl
theorem nts_0 (z : RRz) : nts 0 z = z := by
  match z with
  | .inr f => rfl
  | .inl (C, p) => rfl
theorem nts_s {t : Int → Int} {n lv i : Nat} {C : PR} {p : Nat} (y : kyr (wdv t n p) = 3) : nts i (sTest t n (lv + 1) C p) = nts (i + 1) (sTest t n lv C (nxt t n p)) := by
  cases e : sTest t n lv C (nxt t n p) with
  | inr f => exact nts_r (by rw [sTest, if_pos y, e])
  | inl z =>
    obtain ⟨C2, p2⟩ := z
    exact nts_l (by rw [sTest, if_pos y, e])
theorem stc_1 {o : Int} (h : 3 ≤ o ∧ o ≤ 10) : stc o ≠ 0 := by
  unfold stc
  repeat' split
  all_goals omega
theorem stc_7 {o : Int} (h : 4 ≤ o ∧ o ≤ 10) : (stc o = 7) = (o = 10) := by
  unfold stc
  apply propext
  rw [if_neg (by omega), if_neg (by omega), if_neg (by omega)]
  omega
theorem J192 {g : KG} {r : Int} (hr : r = 20 ∨ r = 52) {n : Nat} {kk pl w inner a4 : Int} (hw : 0 ≤ w ∧ w ≤ inner ∧ inner ≤ 8) {D : Nat} {h0 h : KH} {Q : Option KV → KG → KH → Prop} (F : FR r h0 h) (J : RJ g h r) (T : KF h n kk pl) (q : ∀ h2 : KH, FR r h0 h2 → RJ g h2 r → KF h2 n kk pl → Q none g h2) : Rn (D + 1) 45 192 [xR 5, xR r, xI w, xI inner, xI a4, xU] [] g h Q := by
  have lp : ∀ (m : Nat) (a5 : Int) (h1 : KH), 0 ≤ a5 → a5 + m = inner → FR r h0 h1 → RJ g h1 r → KF h1 n kk pl → Rn (D + 1) 45 195 [xR 5, xR r, xI w, xI inner, xI a4, xI a5] [] g h1 Q := by
    intro m
    induction m with
    | zero =>
      intro a5 h1 a0 ha F1 J1 T1
      rw [B45_195, if_pos (by omega)]
      exact q h1 F1 J1 T1
    | succ m ih =>
      intro a5 h1 a0 ha F1 J1 T1
      rw [B45_195, if_neg (by omega), ga J1.rk.k0]
      refine J38 hr J1 (fun h2 f2 J2 => ?_)
      rw [o0, List.nil_append, B45_208, w32_id (by omega) (by omega)]
      exact ih (a5 + 1) h2 (by omega) (by omega) (F1.tr (fun a a2 a5 al => f2 a (by omega) (by omega))) J2 (T1.keep (f2 2 (by omega) (by omega)))
  rw [B45_192]
  exact lp (inner - w).toNat w h hw.1 (by omega) F J T
theorem S192 {g : KG} {r : Int} (hr : r = 20 ∨ r = 52) {t : Int → Int} {n p2 : Nat} {w inner a4 : Int} {i : Nat} (hw : 0 ≤ w ∧ w + i = inner ∧ inner ≤ 8) {D : Nat} {h0 h : KH} {C : PR} {Q : Option KV → KG → KH → Prop} (F : FR r h0 h) (I : RI g h r C) (T : KP h t n p2) (O : C.Ok) (d1 : 1 ≤ C.dpc) (l : C.ln + i ≤ 300) (q : ∀ h2 : KH, FR r h0 h2 → RI g h2 r (ntsP i C) → KP h2 t n p2 → Q none g h2) : Rn (D + 1) 45 192 [xR 5, xR r, xI w, xI inner, xI a4, xU] [] g h Q := by
  have lp : ∀ (m : Nat) (a5 : Int) (h1 : KH) (C : PR), 0 ≤ a5 → a5 + m = inner → FR r h0 h1 → RI g h1 r C → KP h1 t n p2 → C.Ok → 1 ≤ C.dpc → C.ln + m ≤ 300 → (∀ h2 : KH, FR r h0 h2 → RI g h2 r (ntsP m C) → KP h2 t n p2 → Q none g h2) → Rn (D + 1) 45 195 [xR 5, xR r, xI w, xI inner, xI a4, xI a5] [] g h1 Q := by
    intro m
    induction m with
    | zero =>
      intro a5 h1 C a0 ha F1 I1 T1 O d1 l q
      rw [B45_195, if_pos (by omega)]
      exact q h1 F1 I1 T1
    | succ m ih =>
      intro a5 h1 C a0 ha F1 I1 T1 O d1 l q
      rw [B45_195, if_neg (by omega), ga I1.rk.k0, show (8 : Int) = stc 3 by decide]
      refine S38 hr I1 O (by decide) (by decide) (by omega) (fun h2 f2 I2 => ?_)
      rw [o0, List.nil_append, B45_208, w32_id (by omega) (by omega)]
      refine ih (a5 + 1) h2 (C.emit 3 0) (by omega) (by omega) (F1.tr (fun a a2 a5 al => f2 a (by omega) (by omega))) I2 (T1.keep (f2 2 (by omega) (by omega)) (f2 3 (by omega) (by omega))) (O.emit (by decide) (by decide) (fun z => by omega) (fun _ => d1) (fun z => by omega)) ?_ ?_ q
      · rw [PR.emit_dpc, show dlt 3 = 0 by decide]; omega
      · show C.ln + 1 + (m : Int) ≤ 300
        omega
  rw [B45_192]
  exact lp i w h C hw.1 hw.2.1 F I T O d1 l q
/-- the loop of a test, at a level -/
def BL (g : KG) (r : Int) (t : Int → Int) (n lv : Nat) : Prop :=
  (∀ D, 3 * lv + 4 ≤ D → ∀ (i : Nat) (w inner : Int) (h0 h : KH) (C : PR) (p : Nat) (Q : Option KV → KG → KH → Prop), inner = 8 - (lv : Int) → 0 ≤ w → w + i = inner → FR r h0 h → RI g h r C → KP h t n p → C.Ok → 2 * (C.ln + i) ≤ p → RPo g r t n h0 (nts i (sTest t n lv C p)) Q → Rn D 45 2 [xR 5, xR r, xI w, xI inner, xU, xU] [] g h Q) ∧
  (∀ D, 3 * lv + 4 ≤ D → ∀ (w inner : Int) (h0 h : KH) (kk pl : Int) (Q : Option KV → KG → KH → Prop), inner = 8 - (lv : Int) → 0 ≤ w → w ≤ inner → FR r h0 h → RJ g h r → KF h n kk pl → (∀ h2 : KH, FR r h0 h2 → RJ g h2 r → KF h2 n kk pl → Q none g h2) → Rn D 45 2 [xR 5, xR r, xI w, xI inner, xU, xU] [] g h Q)
theorem HP.of {g : KG} {r : Int} {t : Int → Int} {n lv : Nat} (l8 : lv ≤ 8) {w : Int} (hw : w = 8 - (lv : Int)) (B : BL g r t n lv) : HP g 45 r t n (sTest t n lv) w (3 * lv + 5) := by
  refine ⟨fun D hD h C p Q I T O l q => ?_, fun D hD h kk pl Q J T q => ?_⟩
  · obtain ⟨D, rfl⟩ : ∃ d, D = d + 1 := ⟨D - 1, by omega⟩
    rw [E45]
    exact B.1 D (by omega) 0 w w h h C p Q hw (by omega) (by omega) (FR.rfl_ r h) I T O (by omega) (by rw [nts_0]; exact q)
  · obtain ⟨D, rfl⟩ : ∃ d, D = d + 1 := ⟨D - 1, by omega⟩
    rw [E45]
    exact B.2 D (by omega) w w h h kk pl Q hw (by omega) (by omega) (FR.rfl_ r h) J T q
/-- with a fault, from the test's word on -/
theorem J35 {g : KG} (G : GT g) (k5 : gK g 5 = 6) {r : Int} (hr : r = 20 ∨ r = 52) {n : Nat} {kk pl w inner : Int} (hw : 0 ≤ w ∧ w ≤ inner ∧ inner ≤ 8) {D : Nat} (H : inner < 8 → ∀ (h : KH) (Q : Option KV → KG → KH → Prop), RJ g h r → KF h n kk pl → (∀ h2 : KH, FR r h h2 → RJ g h2 r → KF h2 n kk pl → Q none g h2) → Cl (D + 4) 43 [xR 5, xR r, xI (inner + 1)] g h Q) {h0 h : KH} {Q : Option KV → KG → KH → Prop} (F : FR r h0 h) (J : RJ g h r) (T : KF h n kk pl) (q : ∀ h2 : KH, FR r h0 h2 → RJ g h2 r → KF h2 n kk pl → Q none g h2) : Rn (D + 4) 45 35 [xR 5, xR r, xI w, xI inner, xU, xU] [] g h Q := by
  have fin : ∀ (a4 : Int) (h1 : KH), FR r h0 h1 → RJ g h1 r → KF h1 n kk pl → Rn (D + 4) 45 192 [xR 5, xR r, xI w, xI inner, xI a4, xU] [] g h1 Q := fun a4 h1 F1 J1 T1 => J192 hr hw F1 J1 T1 q
  have add : ∀ (a4 v : Int) (h1 : KH), FR r h0 h1 → RJ g h1 r → KF h1 n kk pl → Rn (D + 4) 45 189 [xR 5, xR r, xI w, xI inner, xI a4, xU] [xI v, xI a4, xR r] g h1 Q := by
    intro a4 v h1 F1 J1 T1
    rw [B45_189, ga J1.rk.k0]
    refine J38 hr J1 (fun h2 f2 J2 => ?_)
    rw [o0, List.nil_append]
    exact fin a4 h2 (F1.tr (fun a a2 a5 al => f2 a (by omega) (by omega))) J2 (T1.keep (f2 2 (by omega) (by omega)))
  have b75 : ∀ a4 : Int, Rn (D + 4) 45 75 [xR 5, xR r, xI w, xI inner, xI a4, xU] [] g h Q := by
    intro a4
    rw [B45_75]
    by_cases c1 : inner < 8
    · rw [if_pos c1]
      by_cases c2 : a4 = 0
      · rw [if_neg (fun y => y c2), ga k5, J.r0, ga G.k2]
        refine F79 G T (fun h1 f1 T1 => ?_)
        have J1 := J.tok hr f1
        have F1 := F.tok f1
        rw [o0, List.nil_append, B45_104, ga k5, w32_id (by omega) (by omega)]
        refine H c1 h1 _ J1 T1 (fun h2 F2 J2 T2 => ?_)
        rw [o0, List.nil_append, B45_112, ga k5, J2.r0, ga G.k2]
        refine F84 G T2 (fun h3 f3 T3 => ?_)
        rw [o0, List.nil_append, B45_121]
        exact fin a4 h3 ((F1.tr F2).tok f3) (J2.tok hr f3) T3
      · rw [if_pos c2, ga k5]
        by_cases c3 : h 5 1 < 40
        · have y0 : ∀ v, hset h 5 1 v 5 0 = 2 := fun v => by rw [hset_i _ _ (by decide)]; exact J.r0
          rw [if_pos c3, ga k5, ga k5, ga k5, y0, ga G.k2]
          generalize w32 (h 5 1 + 1) = u
          have fa : ∀ a, a ≠ 5 → hset h 5 1 u a = h a := fun a ha => hset_a _ _ _ ha
          have J1 : RJ g (hset h 5 1 u) r := ⟨J.rk.keep (fun a x y => fa a (by omega)), by rw [fa r (by omega)]; exact J.nr, by rw [fa r (by omega)]; exact J.ln, y0 u, by rw [fa (r + 1) (by omega)]; exact J.rz⟩
          have F1 : FR r h0 (hset h 5 1 u) := F.tr (fun a a2 a5 al => fa a a5)
          have T1 : KF (hset h 5 1 u) n kk pl := T.keep (fa 2 (by decide))
          generalize hset h 5 1 u = h1 at *
          refine F79 G T1 (fun h2 f2 T2 => ?_)
          have J2 := J1.tok hr f2
          have F2 := F1.tok f2
          rw [o0, List.nil_append, B45_162]
          by_cases c4 : a4 = 7
          · rw [if_neg (fun y => y c4)]
            exact add a4 0 h2 F2 J2 T2
          · rw [if_pos c4, ga k5]
            refine S46 ?_
            rw [o1, List.cons_append, List.nil_append, B45_186, J2.r0, ga G.k2]
            refine F83 G T2 (fun h3 v f3 T3 => ?_)
            rw [o1, List.cons_append, List.nil_append]
            exact add a4 v h3 (F2.tok f3) (J2.tok hr f3) T3
        · rw [if_neg c3, ga k5, J.r0, ga G.k2]
          refine F78 G T ?_
          rw [o0, List.nil_append, B45_142]
          exact fin a4 h F J T
    · rw [if_neg c1, ga k5, J.r0, ga G.k2]
      refine F78 G T ?_
      rw [o0, List.nil_append, B45_89]
      exact fin a4 h F J T
  rw [B45_35, ga k5, J.r0, ga G.k2]
  refine S47 ?_
  generalize (if kyr (h 2 4) < 3 then 0 else stc (kyr (h 2 4))) = s
  rw [o1, List.cons_append, List.nil_append, B45_45]
  by_cases c : s = 0
  · rw [if_neg (fun y => y c), ga k5, J.r0, ga G.k2]
    refine A77 G ?_
    rw [o1, List.cons_append, List.nil_append, B45_61]
    split
    · exact b75 s
    · rw [ga k5, J.r0, ga G.k2]
      refine F78 G T ?_
      rw [o0, List.nil_append, B45_72]
      exact fin s h F J T
  · rw [if_pos c]
    exact b75 s
theorem bl {g : KG} (G : GT g) (k5 : gK g 5 = 6) {r : Int} (hr : r = 20 ∨ r = 52) {t : Int → Int} {n : Nat} (n3 : n ≤ 300) : ∀ lv : Nat, lv ≤ 8 → BL g r t n lv := by
  intro lv
  induction lv with
  | zero =>
    intro l8
    have nH : ∀ inner : Int, inner = 8 - ((0 : Nat) : Int) → ∀ {D : Nat} {kk pl : Int}, inner < 8 → ∀ (h : KH) (Q : Option KV → KG → KH → Prop), RJ g h r → KF h n kk pl → (∀ h2 : KH, FR r h h2 → RJ g h2 r → KF h2 n kk pl → Q none g h2) → Cl (D + 4) 43 [xR 5, xR r, xI (inner + 1)] g h Q := fun inner e D kk pl c => by omega
    refine ⟨fun D hD i w inner h0 h C p Q hi w0 hw F I T O l q => ?_, fun D hD w inner h0 h kk pl Q hi w0 hw F J T q => ?_⟩
    · obtain ⟨D, rfl⟩ : ∃ d, D = d + 4 := ⟨D - 4, by omega⟩
      have pn := T.td.pn
      have J := I.j O (by omega)
      have wd := T.td.wd
      have ky := kyr_r (wdv t n p)
      rw [B45_2, if_pos (by omega), B45_35, ga k5, I.r0, ga G.k2, wd]
      have bad : ∀ (c a4 : Int) (h1 : KH), c ≠ 0 → sTest t n 0 C p = .inr (flt t n p c, (p : Int)) → (∀ a, a ≠ 2 → h1 a = h a) → KF h1 n (flt t n p c) p → Rn (D + 4) 45 192 [xR 5, xR r, xI w, xI inner, xI a4, xU] [] g h1 Q := by
        intro c a4 h1 c0 e f1 X
        exact J192 hr ⟨w0, by omega, by omega⟩ (F.tok f1) (J.tok hr f1) X (fun h2 F2 J2 X2 => q.1 _ _ h2 (nts_r e) F2 J2 X2)
      have five : ∀ a4 : Int, ¬ (¬ sgnD t n p 40 ∧ kyr (wdv t n p) < 3) → Rn (D + 4) 45 75 [xR 5, xR r, xI w, xI inner, xI a4, xU] [] g h Q := by
        intro a4 c
        rw [B45_75, if_neg (by omega), ga k5, I.r0, ga G.k2]
        refine T78 G T (by decide) (fun h2 f2 X => ?_)
        rw [o0, List.nil_append, B45_89]
        exact bad 5 a4 h2 (by decide) (by unfold sTest; exact if_neg c) f2 X
      refine S47 ?_
      rw [o1, List.cons_append, List.nil_append, B45_45]
      by_cases c : kyr (wdv t n p) < 3
      · rw [if_pos c, if_neg (fun y => y rfl), ga k5, I.r0, ga G.k2]
        by_cases y : sgnD t n p 40
        · refine T77y G T y ?_
          rw [o1, List.cons_append, List.nil_append, B45_61, if_pos (by decide)]
          exact five 0 (fun z => z.1 y)
        · refine T77n G T y ?_
          rw [o1, List.cons_append, List.nil_append, B45_61, if_neg (fun z => z rfl), ga k5, I.r0, ga G.k2]
          refine T78 G T (by decide) (fun h2 f2 X => ?_)
          rw [o0, List.nil_append, B45_72]
          exact bad 2 0 h2 (by decide) (by unfold sTest; exact if_pos ⟨y, c⟩) f2 X
      · rw [if_neg c, if_pos (stc_1 (by omega))]
        exact five _ (fun z => c z.2)
    · obtain ⟨D, rfl⟩ : ∃ d, D = d + 4 := ⟨D - 4, by omega⟩
      rw [B45_2, if_pos (by omega)]
      exact J35 G k5 hr ⟨w0, hw, by omega⟩ (nH inner hi) F J T q
  | succ lv ih =>
    intro l8
    have B := ih (by omega)
    have H43 : HP g 43 r t n (sTerms t n (sTest t n lv)) (8 - (lv : Int)) (3 * lv + 5 + 1 + 1) := S43 G k5 hr n3 (GF.test lv) (by omega) (S44 G k5 hr n3 (GF.test lv) (by omega) (HP.of (by omega) rfl B))
    refine ⟨fun D hD i w inner h0 h C p Q hi w0 hw F I T O l q => ?_, fun D hD w inner h0 h kk pl Q hi w0 hw F J T q => ?_⟩
    · obtain ⟨D, rfl⟩ : ∃ d, D = d + 4 := ⟨D - 4, by omega⟩
      have pn := T.td.pn
      have J := I.j O (by omega)
      have wd := T.td.wd
      have ky := kyr_r (wdv t n p)
      have k3 := kyr_3 (wdv t n p)
      have e8 : inner + 1 = 8 - (lv : Int) := by omega
      rw [B45_2, if_neg (by omega), ga k5, I.r0, ga G.k2, wd]
      simp only [c64eq, ne_eq]
      by_cases y3 : kyr (wdv t n p) = 3
      · have wl := wlen (kyr_w (w := wdv t n p) (by omega))
        rw [if_neg (fun z => z (by rw [← k3]; exact y3)), ga k5, ga G.k2]
        refine T79 G T (fun h1 f1 T1 => ?_)
        rw [o0, List.nil_append, B45_29, w32_id (by omega) (by omega)]
        exact B.1 (D + 4) (by omega) (i + 1) w (inner + 1) h0 h1 C _ Q e8 w0 (by omega) (F.tok f1) (I.tok hr f1) T1 O (by omega) (by rw [← nts_s y3]; exact q)
      rw [if_pos (fun z => y3 (by rw [k3]; exact z)), B45_35, ga k5, I.r0, ga G.k2, wd]
      have bad : ∀ (kk pl a4 : Int) (h1 : KH), sTest t n (lv + 1) C p = .inr (kk, pl) → FR r h0 h1 → RJ g h1 r → KF h1 n kk pl → Rn (D + 4) 45 192 [xR 5, xR r, xI w, xI inner, xI a4, xU] [] g h1 Q := by
        intro kk pl a4 h1 e F1 J1 X
        exact J192 hr ⟨w0, by omega, by omega⟩ F1 J1 X (fun h2 F2 J2 X2 => q.1 _ _ h2 (nts_r e) F2 J2 X2)
      have good : ∀ (C2 : PR) (p2 : Nat) (a4 : Int) (h1 : KH), sTest t n (lv + 1) C p = .inl (C2, p2) → FR r h0 h1 → RI g h1 r C2 → KP h1 t n p2 → Rn (D + 4) 45 192 [xR 5, xR r, xI w, xI inner, xI a4, xU] [] g h1 Q := by
        intro C2 p2 a4 h1 e F1 I1 X
        have gr := GF.test (lv + 1) _ _ _ _ e pn O
        have a := gr.ln
        have b := gr.d
        have c := O.dn
        have dd := gr.le
        exact S192 hr ⟨w0, hw, by omega⟩ F1 I1 X gr.ok (by omega) (by omega) (fun h2 F2 I2 X2 => q.2 _ _ h2 (nts_l e) F2 I2 X2)
      refine S47 ?_
      rw [o1, List.cons_append, List.nil_append, B45_45]
      by_cases c : kyr (wdv t n p) < 3
      · rw [if_pos c, if_neg (fun y => y rfl), ga k5, I.r0, ga G.k2]
        by_cases y : sgnD t n p 40
        · refine T77y G T y ?_
          rw [o1, List.cons_append, List.nil_append, B45_61, if_pos (by decide), B45_75, if_pos (by omega), if_neg (fun z => z rfl), ga k5, I.r0, ga G.k2]
          refine T79 G T (fun h1 f1 T1 => ?_)
          have I1 := I.tok hr f1
          have F1 := F.tok f1
          have nr := nxt_r t pn
          rw [o0, List.nil_append, B45_104, ga k5, w32_id (by omega) (by omega), e8]
          refine H43.1 (D + 4) (by omega) h1 C _ _ I1 T1 O (by omega) ⟨fun k pl h2 e F2 J2 X => ?_, fun C2 p2 h2 e F2 I2 X => ?_⟩
          · have es : sTest t n (lv + 1) C p = .inr (k, pl) := by rw [sTest, if_neg y3, if_pos y, e]
            dsimp only
            rw [o0, List.nil_append, B45_112, ga k5, J2.r0, ga G.k2]
            refine F84 G X (fun h3 f3 X3 => ?_)
            rw [o0, List.nil_append, B45_121]
            exact bad k pl 0 h3 es ((F1.tr F2).tok f3) (J2.tok hr f3) X3
          · have gr := (GF.test lv).terms _ _ _ _ e nr.2.1 O
            have a := gr.ln
            have b := gr.le
            dsimp only
            rw [o0, List.nil_append, B45_112, ga k5, I2.r0, ga G.k2]
            refine T84 G X (fun y2 h3 f3 X3 => ?_) (fun y2 h3 f3 X3 => ?_)
            · have es : sTest t n (lv + 1) C p = .inr (flt t n p2 2, (p2 : Int)) := by rw [sTest, if_neg y3, if_pos y, e]; exact if_neg y2
              rw [o0, List.nil_append, B45_121]
              exact bad _ _ 0 h3 es ((F1.tr F2).tok f3) ((I2.j gr.ok (by omega)).tok hr f3) X3
            · have es : sTest t n (lv + 1) C p = .inl (C2, nxt t n p2) := by rw [sTest, if_neg y3, if_pos y, e]; exact if_pos y2
              rw [o0, List.nil_append, B45_121]
              exact good C2 _ 0 h3 es ((F1.tr F2).tok f3) (I2.tok hr f3) X3
        · refine T77n G T y ?_
          rw [o1, List.cons_append, List.nil_append, B45_61, if_neg (fun z => z rfl), ga k5, I.r0, ga G.k2]
          refine T78 G T (by decide) (fun h2 f2 X => ?_)
          rw [o0, List.nil_append, B45_72]
          exact bad _ _ 0 h2 (by rw [sTest, if_neg y3, if_neg y, if_pos c]) (F.tok f2) (J.tok hr f2) X
      · have no40 : ¬ sgnD t n p 40 := by
          intro z
          have z1 : kd t n p = 3 := z.1
          have z2 : wdv t n p = 0 := by unfold wdv; rw [if_neg (fun x => by have := x.1; omega)]
          rw [z2] at c
          exact c (by decide)
        have s7 := stc_7 (o := kyr (wdv t n p)) (by omega)
        rw [if_neg c, if_pos (stc_1 (by omega)), B45_75, if_pos (by omega), if_pos (stc_1 (by omega)), ga k5, I.ts]
        have es : sTest t n (lv + 1) C p = if 40 ≤ C.ts then .inr (flt t n p 6, p)
            else if kyr (wdv t n p) = 10 then .inl (C.test.emit 10 0, nxt t n p)
            else if kd t n (nxt t n p) ≠ 2 then .inr (flt t n (nxt t n p) 2, nxt t n p)
            else if ¬ (0 ≤ nmv t n (nxt t n p) ∧ nmv t n (nxt t n p) ≤ hiR (kyr (wdv t n p))) then .inr (flt t n (nxt t n p) 4, nxt t n p)
            else .inl (C.test.emit (kyr (wdv t n p)) (nmv t n (nxt t n p)), nxt t n (nxt t n p)) := by
          rw [sTest, if_neg y3, if_neg no40, if_neg c]
        by_cases c4 : C.ts < 40
        case neg =>
          rw [if_pos (by omega)] at es
          rw [if_neg c4, ga k5, I.r0, ga G.k2]
          refine T78 G T (by decide) (fun h2 f2 X => ?_)
          rw [o0, List.nil_append, B45_142]
          exact bad _ _ _ h2 es (F.tok f2) (J.tok hr f2) X
        rw [if_neg (by omega)] at es
        have t0 := O.t0
        have y0 : ∀ v, hset h 5 1 v 5 0 = 2 := fun v => by rw [hset_i _ _ (by decide)]; exact I.r0
        rw [if_pos c4, ga k5, ga k5, ga k5, y0, ga G.k2, w32_id (by omega) (by omega)]
        have fa : ∀ a, a ≠ 5 → hset h 5 1 (C.ts + 1) a = h a := fun a ha => hset_a _ _ _ ha
        have I1 : RI g (hset h 5 1 (C.ts + 1)) r C.test := ⟨I.rk.keep (fun a x y => fa a (by omega)), by rw [fa r (by omega)]; exact I.nr, by rw [fa r (by omega)]; exact I.ln, by rw [fa (r + 1) (by omega)]; exact I.rs, by rw [fa (r + 2) (by omega)]; exact I.cd, y0 _, hset_e _ _ _ _, by rw [fa (r + 1) (by omega)]; exact I.rz⟩
        have F1 : FR r h0 (hset h 5 1 (C.ts + 1)) := F.tr (fun a a2 a5 al => fa a a5)
        have T1 : KP (hset h 5 1 (C.ts + 1)) t n p := T.keep (fa 2 (by decide)) (fa 3 (by decide))
        generalize hset h 5 1 (C.ts + 1) = h1 at *
        have O1 := O.test c4
        have l1 : C.test.ln ≤ 300 := by show C.ln ≤ 300; omega
        have wl := wlen (kyr_w (w := wdv t n p) (by omega))
        have nr := nxt_r t pn
        refine T79 G T1 (fun h2 f2 T2 => ?_)
        have I2 := I1.tok hr f2
        have F2 := F1.tok f2
        rw [o0, List.nil_append, B45_162]
        have add : ∀ (v : Int) (p3 : Nat) (h3 : KH), 0 ≤ v ∧ v ≤ 9999 → sTest t n (lv + 1) C p = .inl (C.test.emit (kyr (wdv t n p)) v, p3) → FR r h0 h3 → RI g h3 r C.test → KP h3 t n p3 → Rn (D + 4) 45 189 [xR 5, xR r, xI w, xI inner, xI (stc (kyr (wdv t n p))), xU] [xI v, xI (stc (kyr (wdv t n p))), xR r] g h3 Q := by
          intro v p3 h3 hv es2 F3 I3 T3
          rw [B45_189, ga I3.rk.k0]
          refine S38 hr I3 O1 (by omega) hv (by show C.ln < 300; omega) (fun h4 f4 I4 => ?_)
          rw [o0, List.nil_append]
          exact good _ p3 _ h4 es2 (F3.tr (fun a a2 a5 al => f4 a (by omega) (by omega))) I4 (T3.keep (f4 2 (by omega) (by omega)) (f4 3 (by omega) (by omega)))
        by_cases c5 : kyr (wdv t n p) = 10
        · rw [if_pos c5] at es
          rw [if_neg (fun z => z (by rw [s7]; exact c5))]
          exact add 0 _ h2 (by decide) (by rw [es, c5]) F2 I2 T2
        · rw [if_neg c5] at es
          rw [if_pos (fun z => c5 (by rw [s7] at z; exact z)), ga k5]
          refine S46 ?_
          rw [hi_stc (by omega), o1, List.cons_append, List.nil_append, B45_186, I2.r0, ga G.k2]
          have J2 := I2.j O1 l1
          have hh := hiR_r (kyr (wdv t n p))
          have jadd : ∀ (kk pl v : Int) (h3 : KH), sTest t n (lv + 1) C p = .inr (kk, pl) → (∀ a, a ≠ 2 → h3 a = h2 a) → KF h3 n kk pl → Rn (D + 4) 45 189 [xR 5, xR r, xI w, xI inner, xI (stc (kyr (wdv t n p))), xU] [xI v, xI (stc (kyr (wdv t n p))), xR r] g h3 Q := by
            intro kk pl v h3 es2 f3 X
            have J3 := J2.tok hr f3
            rw [B45_189, ga J3.rk.k0]
            refine J38 hr J3 (fun h4 f4 J4 => ?_)
            rw [o0, List.nil_append]
            exact bad kk pl _ h4 es2 ((F2.tok f3).tr (fun a a2 a5 al => f4 a (by omega) (by omega))) J4 (X.keep (f4 2 (by omega) (by omega)))
          refine T83 G T2 (fun z h3 v f3 X => ?_) (fun z z2 h3 v f3 X => ?_) (fun z z2 h3 f3 T3 => ?_)
          · rw [if_pos z] at es
            rw [o1, List.cons_append, List.nil_append]
            exact jadd _ _ v h3 es f3 X
          · rw [if_neg (fun x => x z), if_pos z2] at es
            rw [o1, List.cons_append, List.nil_append]
            exact jadd _ _ v h3 es f3 X
          · rw [if_neg (fun x => x z), if_neg (fun x => x z2)] at es
            rw [o1, List.cons_append, List.nil_append]
            exact add _ _ h3 (by omega) es (F2.tok f3) (I2.tok hr f3) T3
    · obtain ⟨D, rfl⟩ : ∃ d, D = d + 4 := ⟨D - 4, by omega⟩
      have e8 : inner + 1 = 8 - (lv : Int) := by omega
      have j35 : ∀ h1 : KH, FR r h0 h1 → RJ g h1 r → KF h1 n kk pl → Rn (D + 4) 45 35 [xR 5, xR r, xI w, xI inner, xU, xU] [] g h1 Q := fun h1 F1 J1 T1 => J35 G k5 hr ⟨w0, hw, by omega⟩ (fun c h2 Q2 J2 T2 q2 => by rw [e8]; exact H43.2 (D + 4) (by omega) h2 kk pl Q2 J2 T2 q2) F1 J1 T1 q
      rw [B45_2, if_neg (by omega), ga k5, J.r0, ga G.k2]
      split
      · exact j35 h F J T
      · rw [ga k5, ga G.k2]
        refine F79 G T (fun h1 f1 T1 => ?_)
        rw [o0, List.nil_append, B45_29, w32_id (by omega) (by omega)]
        exact B.2 (D + 4) (by omega) w (inner + 1) h0 h1 kk pl Q e8 w0 (by omega) (F.tok f1) (J.tok hr f1) T1 q
