/-! trays: tray, write, read -/
/-- what the class's side knows of a world besides -/
def Wd.Rg (W : Wd) : Prop := (∀ t, 0 ≤ t → t < 4 → W.tm t = -1 ∨ (0 ≤ W.tm t ∧ W.tm t ≤ 60 ∧ 0 ≤ W.ts t ∧ W.ts t ≤ 3)) ∧ (0 ≤ W.fed ∧ W.fed ≤ 700) ∧ (0 ≤ W.nmk ∧ W.nmk ≤ 3) ∧ ∀ i, 0 ≤ i → i < W.nmk → (W.mks i).Ok
theorem CR.rg {g : KG} {h : KH} {W : Wd} (C : CR g h W) : W.Rg := by
  obtain ⟨l, r, l2, r2, C1, C2, C3, C4, C5, C6, C7⟩ := C
  exact ⟨fun t t0 t1 => (C4.tm t t0 t1).imp (fun z => z.1) (fun z => ⟨z.1, z.2.1, z.2.2.1, z.2.2.2.1⟩), C5.f7, C3.nm3, fun i i0 i1 => (C6.mk i i0 i1).2⟩
def Wd.trs (W : Wd) (ts tm : Int → Int) (tv : Int → Int → Int) (s : Int) : Wd := Wd.mk_ W.cur W.mks W.nmk ts tm tv W.tp W.fed s W.top W.bot W.fk W.fp W.hm W.hd W.fs
theorem CK.keepg {g : KG} {h h2 : KH} (e1 : h2 1 = h 1) (e2 : h2 2 0 = h 2 0) (e4 : h2 4 0 = h 4 0) (e5 : h2 5 0 = h 5 0) (e31 : h2 31 = h 31) (e32 : h2 32 = h 32) (e36 : h2 36 = h 36) (et : ∀ t, 0 ≤ t → t < 4 → h2 (55 + 2 * t) 2 = h (55 + 2 * t) 2) (T : CK g h) : CK g h2 := by
  have hk : ∀ t, 0 ≤ t → t < 4 → gK g (55 + 2 * t) = 10 ∧ h2 (55 + 2 * t) 2 = 56 + 2 * t ∧ gK g (56 + 2 * t) = 21 ∧ gL g (56 + 2 * t) = 60 := fun t h0 h1 => by rw [et t h0 h1]; exact T.kt t h0 h1
  unfold CK at T ⊢
  simp only [e1, e2, e4, e5, e31, e32, e36]
  obtain ⟨a1, a2, a3, a4, a5, a6, a7, a8, a9, a10, a11, a12, a13, a14, a15, a16, a17, a18, a19, a20, a21, a22, a23, a24, a25, a26, a27, a28, a29, a30, -⟩ := T
  exact ⟨a1, a2, a3, a4, a5, a6, a7, a8, a9, a10, a11, a12, a13, a14, a15, a16, a17, a18, a19, a20, a21, a22, a23, a24, a25, a26, a27, a28, a29, a30, hk⟩
theorem CX.keepg {g : KG} {h h2 : KH} {W : Wd} {l2 r2 : Int} (e0 : ∀ j, j ≠ 11 → h2 0 j = h 0 j) (C3 : CX g h W l2 r2) : CX g h2 (W.st (h2 0 11)) l2 r2 :=
  ⟨C3.k0, by rw [e0 0 (by decide)]; exact C3.p0, by rw [e0 1 (by decide)]; exact C3.p1, by rw [e0 2 (by decide)]; exact C3.p2, by rw [e0 3 (by decide)]; exact C3.p3, by rw [e0 4 (by decide)]; exact C3.p4, by rw [e0 5 (by decide)]; exact C3.p5, by rw [e0 6 (by decide)]; exact C3.p6, by rw [e0 7 (by decide)]; exact C3.p7, by rw [e0 8 (by decide)]; exact C3.p8, by rw [e0 9 (by decide)]; exact C3.p9, by rw [e0 10 (by decide)]; exact C3.p10, rfl, by rw [e0 12 (by decide)]; exact C3.top, by rw [e0 13 (by decide)]; exact C3.bot, by rw [e0 14 (by decide)]; exact C3.nmk, C3.nm3, by rw [e0 17 (by decide)]; exact C3.hm, by rw [e0 16 (by decide)]; exact C3.hd, by rw [e0 18 (by decide)]; exact C3.fs⟩
theorem CR.tray {g : KG} {h h2 : KH} {W : Wd} {ts tm : Int → Int} {tv : Int → Int → Int} {s : Int} (C : CR g h W) (es : h2 0 11 = s) (T : CT h2 (W.trs ts tm tv s)) (e : ∀ a, 1 ≤ a → a < 138 → (a < 55 ∨ 62 < a) → h2 a = h a) (et : ∀ t, 0 ≤ t → t < 4 → h2 (55 + 2 * t) 2 = h (55 + 2 * t) 2) (e0 : ∀ j, j ≠ 11 → h2 0 j = h 0 j) : CR g h2 (W.trs ts tm tv s) := by
  obtain ⟨l, r, l2, r2, C1, C2, C3, C4, C5, C6, C7⟩ := C
  have X := C3.keepg e0
  rw [es] at X
  have A6 := C6.keep (h2 := h2) (fun a _ _ => e a (by omega) (by omega) (by omega))
  have A7 := C7.keep (h2 := h2) (fun a _ _ _ => e a (by omega) (by omega) (by omega))
  have y2 := e 2 (by decide) (by decide) (by decide)
  have y3 := e 3 (by decide) (by decide) (by decide)
  have z15 := e0 15 (by decide)
  exact ⟨l, r, l2, r2, C1.keepg (e 1 (by decide) (by decide) (by decide)) (by rw [y2]) (by rw [e 4 (by decide) (by decide) (by decide)]) (by rw [e 5 (by decide) (by decide) (by decide)]) (e 31 (by decide) (by decide) (by decide)) (e 32 (by decide) (by decide) (by decide)) (e 36 (by decide) (by decide) (by decide)) et, ⟨C2.k35, by rw [e 35 (by decide) (by decide) (by decide)]; exact C2.p35⟩, X, T, ⟨by rw [y2]; exact C5.fed, C5.f7, by rw [y3]; exact C5.tp, by rw [z15, y2]; exact C5.fa, C5.tb⟩, A6, A7⟩
theorem MR.tray {g : KG} {h h2 : KH} {W : Wd} {ts tm : Int → Int} {tv : Int → Int → Int} {s : Int} (C : MR g h W) (es : h2 138 1 = s) (e : ∀ a, 139 ≤ a → a < 155 → a ≠ 140 → a ≠ 141 → a ≠ 142 → h2 a = h a) (e0 : ∀ j, j ≠ 1 → h2 138 j = h 138 j) (t1 : ∀ t, 0 ≤ t → t < 4 → h2 141 t = tm t) (t2 : ∀ t, 0 ≤ t → t < 4 → tm t ≠ -1 → h2 140 t = ts t) (t3 : ∀ t p, 0 ≤ t → t < 4 → 0 ≤ p → p < tm t → h2 142 (60 * t + p) = tv t p) : MR g h2 (W.trs ts tm tv s) := by
  obtain ⟨K, X, D⟩ := C
  have y := e 139 (by decide) (by decide) (by decide) (by decide) (by decide)
  exact ⟨K.keep (fun j hj => e0 j (by omega)), ⟨es, by rw [e0 2 (by decide)]; exact X.top, by rw [e0 3 (by decide)]; exact X.bot, by rw [e0 9 (by decide)]; exact X.fed, by rw [e0 15 (by decide)]; exact X.fk, by rw [e0 16 (by decide)]; exact X.fp, by rw [e0 35 (by decide)]; exact X.hm, by rw [e0 38 (by decide)]; exact X.fs, by rw [e0 40 (by decide)]; exact X.nmk⟩, ⟨t1, t2, t3, by rw [e 143 (by decide) (by decide) (by decide) (by decide) (by decide)]; exact D.tp, by rw [e 152 (by decide) (by decide) (by decide) (by decide) (by decide)]; exact D.hd, by rw [y]; exact D.cur, by rw [y]; exact D.mk⟩⟩
theorem S87 {g : KG} {h : KH} {a b s m : Int} {d : Nat} {Q : Option KV → KG → KH → Prop} (ka : gK g a = 10) (hb : h a 2 = b) (kb : gK g b = 21) (lb : gL g b = 60) (ne : a ≠ b) (hQ : ∀ h2 : KH, (∀ c, c ≠ a → c ≠ b → h2 c = h c) → h2 a 0 = s → h2 a 1 = m → h2 a 2 = b → (∀ p, 0 ≤ p → p < 60 → h2 b p = 0) → Q none g h2) : Cl (d + 1) 87 [xR a, xI s, xI m] g h Q := by
  have L : ∀ n k : Nat, k + n = 60 → ∀ h1 : KH, (∀ c, c ≠ a → c ≠ b → h1 c = h c) → h1 a 0 = s → h1 a 1 = m → h1 a 2 = b → (∀ p, 0 ≤ p → p < (k : Int) → h1 b p = 0) → Rn d 87 12 [xR a, xI s, xI m, xI (k : Int)] [] g h1 Q := by
    intro n
    induction n with
    | zero =>
      intro k hk h1 q1 q2 q3 q4 q5
      rw [B87_12, if_pos (by omega)]
      exact hQ h1 q1 q2 q3 q4 (fun p p0 p1 => q5 p p0 (by omega))
    | succ n ih =>
      intro k hk h1 q1 q2 q3 q4 q5
      have e1 : ((k : Int) + 1) = ((k + 1 : Nat) : Int) := by omega
      rw [B87_12, if_neg (by omega), ga ka, q4, ga (by omega), w32_id (by omega) (by omega), e1]
      refine ih (k + 1) (by omega) _ (fun c c1 c2 => by rw [hset_a _ _ _ c2, q1 c c1 c2]) (by rw [hset_a _ _ _ ne]; exact q2) (by rw [hset_a _ _ _ ne]; exact q3) (by rw [hset_a _ _ _ ne]; exact q4) (fun p p0 p1 => ?_)
      by_cases hp : p = k
      · rw [hp, hset_e]
      · rw [hset_i _ _ hp]; exact q5 p p0 (by omega)
  rw [E87, ga ka, ga ka]
  exact L 60 0 (by omega) _ (fun c c1 c2 => by rw [hset_a _ _ _ c1, hset_a _ _ _ c1]) (by rw [hset_i _ _ (by decide), hset_e]) (by rw [hset_e]) (by rw [hset_i _ _ (by decide), hset_i _ _ (by decide)]; exact hb) (fun p p0 p1 => by omega)
def Wd.tray (W : Wd) (t s m : Int) : Wd × Int := if (0 ≤ t ∧ t ≤ 3) ∧ (0 ≤ s ∧ s ≤ 3) ∧ 0 ≤ m ∧ m ≤ 60 then (W.trs (kset W.ts t s) (kset W.tm t m) (fun x p => if x = t then 0 else W.tv x p) 0, 1) else (W.st 1, 0)
theorem C93 {W : Wd} {t s m : Int} : Cw 93 [xR 0, xI t, xI s, xI m] 3 W (W.tray t s m) := by
  intro g h C d Q hQ
  have C0 := C
  obtain ⟨l, r, l2, r2, C1, C2, C3, C4, C5, C6, C7⟩ := C
  have no : ¬ ((0 ≤ t ∧ t ≤ 3) ∧ (0 ≤ s ∧ s ≤ 3) ∧ 0 ≤ m ∧ m ≤ 60) → Rn (d + 2) 93 32 [xR 0, xI t, xI s, xI m] [] g h Q := by
    intro z
    unfold Wd.tray at hQ
    rw [if_neg z] at hQ
    simp only [B93_32, B93_37, o1, o0, List.cons_append, List.nil_append, C3.k0, true_and, S133 (k := C3.k0), S134 (k := C3.k0), S135 (k := C3.k0), S136 (k := C3.k0), g01]
    exact cst C0 hQ
  rw [E93, ga C3.k0, S139]
  by_cases ht : 0 ≤ t ∧ t ≤ 3
  · rw [bzt ht]
    simp only [B93_5, o1, o0, List.cons_append, List.nil_append, ite_not, bzF, bzT, if_true, if_false, ↓reduceIte, Int.reduceEq, Int.reduceLE, Int.reduceLT, Int.reduceNeg, ne_eq, not_true_eq_false, not_false_eq_true, and_self, and_true, true_and, and_false, false_and, eq_self, S146]
    by_cases hs : 0 ≤ s ∧ s ≤ 3
    · rw [bzt hs]
      simp only [B93_17, o1, o0, List.cons_append, List.nil_append, ite_not, bzF, bzT, if_true, if_false, ↓reduceIte, Int.reduceEq, Int.reduceLE, Int.reduceLT, Int.reduceNeg, ne_eq, not_true_eq_false, not_false_eq_true, and_self, and_true, true_and, and_false, false_and, eq_self, S146]
      by_cases hm : 0 ≤ m ∧ m ≤ 60
      · rw [bzt hm]
        have t0 := C1.t0 t ht.1 (by omega)
        obtain ⟨k1, k2, k3, k4⟩ := C1.kt t ht.1 (by omega)
        simp (disch := omega) only [B93_29, o1, o0, List.cons_append, List.nil_append, ite_not, bzF, bzT, if_true, if_false, ↓reduceIte, Int.reduceEq, Int.reduceLE, Int.reduceLT, Int.reduceNeg, ne_eq, not_true_eq_false, not_false_eq_true, and_self, and_true, true_and, and_false, false_and, eq_self, C3.k0, C3.p0, C1.k1, C1.l1, t0, k1, ga]
        rw [ga ⟨by decide, by omega⟩]
        refine S87 k1 k2 k3 k4 (by omega) ?_
        intro h2 q1 q2 q3 q4 q5
        simp only [B93_49, B93_53, o1, o0, List.cons_append, List.nil_append, C3.k0, true_and, S133 (k := C3.k0), S134 (k := C3.k0), S135 (k := C3.k0), S136 (k := C3.k0), g11]
        unfold Wd.tray at hQ
        rw [if_pos ⟨ht, hs, hm⟩] at hQ
        have z : ∀ c, c ≠ 0 → hset h2 0 11 0 c = h2 c := fun c hc => hset_a _ _ _ hc
        have U := C0.tray (h2 := hset h2 0 11 0) (ts := kset W.ts t s) (tm := kset W.tm t m) (tv := fun x p => if x = t then 0 else W.tv x p) (s := 0) (hset_e _ _ _ _) ⟨?_, ?_⟩ (fun a a0 a1 a2 => by rw [z _ (by omega), q1 a (by omega) (by omega)]) (fun x x0 x1 => ?_) (fun j hj => by rw [hset_i _ _ hj, q1 0 (by omega) (by omega)])
        exact hQ _ U (fun a ha => by rw [z _ (by omega), q1 a (by omega) (by omega)])
        · intro x x0 x1
          rw [z (55 + 2 * x) (by omega)]
          by_cases hx : x = t
          · right
            subst hx
            have r1 : kset W.tm x m x = m := if_pos rfl
            have r2 : kset W.ts x s x = s := if_pos rfl
            refine ⟨?_, ?_, ?_, ?_, ?_, ?_⟩
            · show 0 ≤ kset W.tm x m x
              omega
            · show kset W.tm x m x ≤ 60
              omega
            · show 0 ≤ kset W.ts x s x
              omega
            · show kset W.ts x s x ≤ 3
              omega
            · show _ = kset W.ts x s x
              rw [r2]; exact q2
            · show _ = kset W.tm x m x
              rw [r1]; exact q3
          · have r1 : kset W.tm t m x = W.tm x := if_neg hx
            have r2 : kset W.ts t s x = W.ts x := if_neg hx
            have T := C4.tm x x0 x1
            rw [← r1, ← r2] at T
            rw [q1 _ (by omega) (by omega)]
            exact T
        · intro x p x0 x1 p0 p1
          rw [z (56 + 2 * x) (by omega)]
          show _ = if x = t then 0 else W.tv x p
          by_cases hx : x = t
          · rw [if_pos hx]
            have p1 : p < kset W.tm t m x := p1
            unfold kset at p1
            rw [if_pos hx] at p1
            rw [hx]; exact q5 p p0 (by omega)
          · rw [if_neg hx, q1 _ (by omega) (by omega)]
            have p1 : p < kset W.tm t m x := p1
            unfold kset at p1
            rw [if_neg hx] at p1
            exact C4.tv x p x0 x1 p0 p1
        · rw [z (55 + 2 * x) (by omega)]
          by_cases hx : x = t
          · rw [hx, q4, k2]
          · rw [q1 _ (by omega) (by omega)]
      · rw [bzf hm]
        simp only [B93_29, o1, o0, List.cons_append, List.nil_append, ite_not, bzF, bzT, if_true, if_false, ↓reduceIte, Int.reduceEq, Int.reduceLE, Int.reduceLT, Int.reduceNeg, ne_eq, not_true_eq_false, not_false_eq_true, and_self, and_true, true_and, and_false, false_and, eq_self]
        exact no (fun z => hm z.2.2)
    · rw [bzf hs]
      simp only [B93_17, o1, o0, List.cons_append, List.nil_append, ite_not, bzF, bzT, if_true, if_false, ↓reduceIte, Int.reduceEq, Int.reduceLE, Int.reduceLT, Int.reduceNeg, ne_eq, not_true_eq_false, not_false_eq_true, and_self, and_true, true_and, and_false, false_and, eq_self]
      exact no (fun z => hs z.2.1)
  · rw [bzf ht]
    simp only [B93_5, o1, o0, List.cons_append, List.nil_append, ite_not, bzF, bzT, if_true, if_false, ↓reduceIte, Int.reduceEq, Int.reduceLE, Int.reduceLT, Int.reduceNeg, ne_eq, not_true_eq_false, not_false_eq_true, and_self, and_true, true_and, and_false, false_and, eq_self]
    exact no (fun z => ht z.1)
theorem C166 {W : Wd} (G : W.Rg) {t s m : Int} : Mw 166 [xR 138, xI t, xI s, xI m] 2 W (W.tray t s m) := by
  intro g h C O d Q hQ
  have K := C.1
  have M := C.2.2.cur
  have no : ¬ ((0 ≤ t ∧ t ≤ 3) ∧ (0 ≤ s ∧ s ≤ 3) ∧ 0 ≤ m ∧ m ≤ 60) → Rn (d + 1) 166 26 [xR 138, xI t, xI s, xI m, xU] [] g h Q := by
    intro z
    unfold Wd.tray at hQ
    rw [if_neg z] at hQ
    simp only [B166_26, B166_31, o1, o0, List.cons_append, List.nil_append, K.k0, true_and, S160 (k := K.k0), S161 (k := K.k0), S162 (k := K.k0), ite_not, bzF, bzT, if_true, if_false, ↓reduceIte, Int.reduceEq, Int.reduceLE, Int.reduceLT, Int.reduceNeg, ne_eq, not_true_eq_false, not_false_eq_true, and_self, and_true, true_and, and_false, false_and, eq_self, g01]
    exact mst C hQ
  rw [E166, S164]
  by_cases ht : 0 ≤ t ∧ t ≤ 3
  · rw [bzt ht]
    simp only [B166_4, o1, o0, List.cons_append, List.nil_append, ite_not, bzF, bzT, if_true, if_false, ↓reduceIte, Int.reduceEq, Int.reduceLE, Int.reduceLT, Int.reduceNeg, ne_eq, not_true_eq_false, not_false_eq_true, and_self, and_true, true_and, and_false, false_and, eq_self]
    by_cases s0 : s < 0
    · rw [if_pos s0]; exact no (fun z => by omega)
    by_cases s1 : 3 < s
    · rw [if_neg s0, if_pos s1]; exact no (fun z => by omega)
    by_cases m0 : m < 0
    · rw [if_neg s0, if_neg s1, if_pos m0]; exact no (fun z => by omega)
    by_cases m1 : m ≤ 60
    · rw [if_neg s0, if_neg s1, if_neg m0, if_pos m1]
      have z1 : (hset h 140 t s) 138 = h 138 := hset_a _ _ _ (by decide)
      simp (disch := omega) only [K.k0, K.p4, K.k140, K.l140, K.p5, K.k141, K.l141, z1, true_and, ga]
      unfold Wd.tray at hQ
      rw [if_pos ⟨ht, by omega, by omega, m1⟩] at hQ
      have L : ∀ n k : Nat, (k : Int) + n = m → ∀ h1 : KH, (∀ c, c ≠ 140 → c ≠ 141 → c ≠ 142 → h1 c = h c) → (∀ j, h1 140 j = kset (h 140) t s j) → (∀ j, h1 141 j = kset (h 141) t m j) → (∀ p, 0 ≤ p → p < (k : Int) → h1 142 (60 * t + p) = 0) → (∀ j, (j < 60 * t ∨ 60 * t + 60 ≤ j) → h1 142 j = h 142 j) → Rn (d + 1) 166 49 [xR 138, xI t, xI s, xI m, xI (k : Int)] [] g h1 Q := by
        intro n
        induction n with
        | zero =>
          intro k hk h1 q1 q2 q3 q4 q5
          have z0 : h1 138 = h 138 := q1 _ (by decide) (by decide) (by decide)
          rw [B166_49, if_pos (by omega), ga K.k0]
          simp only [S160 (k := K.k0), S161 (k := K.k0), S162 (k := K.k0), B166_79, o1, o0, List.cons_append, List.nil_append, ite_not, bzF, bzT, if_true, if_false, ↓reduceIte, Int.reduceEq, Int.reduceLE, Int.reduceLT, Int.reduceNeg, ne_eq, not_true_eq_false, not_false_eq_true, and_self, and_true, true_and, and_false, false_and, eq_self, g11]
          have U := C.tray (h2 := hset h1 138 1 0) (ts := kset W.ts t s) (tm := kset W.tm t m) (tv := fun x p => if x = t then 0 else W.tv x p) (s := 0) (hset_e _ _ _ _) (fun a a0 a1 b1 b2 b3 => by rw [hset_a _ _ _ (by omega), q1 a b1 b2 b3]) (fun j hj => by rw [hset_i _ _ hj, z0]) ?_ ?_ ?_
          exact hQ _ U (fun a ha => by rw [hset_a _ _ _ (by omega), q1 a (by omega) (by omega) (by omega)])
          · intro x x0 x1
            rw [hset_a _ _ _ (by decide), q3]
            unfold kset
            split
            · rfl
            · exact C.2.2.tm x x0 x1
          · intro x x0 x1
            rw [hset_a _ _ _ (by decide), q2]
            unfold kset
            by_cases hx : x = t
            · rw [if_pos hx, if_pos hx, if_pos hx]; exact fun _ => rfl
            · rw [if_neg hx, if_neg hx, if_neg hx]; exact C.2.2.ts x x0 x1
          · intro x p x0 x1 p0 p1
            rw [hset_a _ _ _ (by decide)]
            unfold kset at p1
            by_cases hx : x = t
            · rw [if_pos hx] at p1
              show _ = if x = t then 0 else W.tv x p
              rw [if_pos hx, hx]
              exact q4 p p0 (by omega)
            · rw [if_neg hx] at p1
              show _ = if x = t then 0 else W.tv x p
              have l6 := G.1 x x0 x1
              rw [if_neg hx, q5 _ (by omega)]
              exact C.2.2.tv x p x0 x1 p0 p1
        | succ n ih =>
          intro k hk h1 q1 q2 q3 q4 q5
          have z0 : h1 138 = h 138 := q1 _ (by decide) (by decide) (by decide)
          have e1 : ((k : Int) + 1) = ((k + 1 : Nat) : Int) := by omega
          rw [B166_49, if_neg (by omega), ga K.k0, z0, K.p6]
          simp (disch := omega) only [w32_id]
          rw [ga ⟨K.k142, by omega, by rw [K.l142]; omega⟩, e1]
          refine ih (k + 1) (by omega) _ (fun c c1 c2 c3 => by rw [hset_a _ _ _ c3, q1 c c1 c2 c3]) (fun j => by rw [hset_a _ _ _ (by decide), q2]) (fun j => by rw [hset_a _ _ _ (by decide), q3]) (fun p p0 p1 => ?_) (fun j hj => by rw [hset_i _ _ (by omega)]; exact q5 j hj)
          by_cases hp : p = k
          · rw [hp, hset_e]
          · rw [hset_i _ _ (by omega)]; exact q4 p p0 (by omega)
      refine L m.toNat 0 (by omega) (hset (hset h 140 t s) 141 t m) (fun c c1 c2 c3 => by rw [hset_a _ _ _ c2, hset_a _ _ _ c1]) (fun j => ?_) (fun j => ?_) (fun p p0 p1 => by omega) (fun j hj => by rw [hset_a _ _ _ (by decide), hset_a _ _ _ (by decide)])
      · rw [hset_a _ _ _ (by decide)]
        by_cases hj : j = t
        · rw [hj, hset_e]; exact (if_pos rfl).symm
        · rw [hset_i _ _ hj]; exact (if_neg hj).symm
      · by_cases hj : j = t
        · rw [hj, hset_e]; exact (if_pos rfl).symm
        · rw [hset_i _ _ hj, hset_a _ _ _ (by decide)]; exact (if_neg hj).symm
    · rw [if_neg s0, if_neg s1, if_neg m0, if_neg m1]; exact no (fun z => by omega)
  · rw [bzf ht]
    simp only [B166_4, o1, o0, List.cons_append, List.nil_append, ite_not, bzF, bzT, if_true, if_false, ↓reduceIte, Int.reduceEq, Int.reduceLE, Int.reduceLT, Int.reduceNeg, ne_eq, not_true_eq_false, not_false_eq_true, and_self, and_true, true_and, and_false, false_and, eq_self]
    exact no (fun z => ht z.1)
def Wd.wrong (W : Wd) (t p : Int) : Int := if 0 ≤ t ∧ t ≤ 3 then (if W.tm t = -1 then 2 else if 0 ≤ p ∧ p < W.tm t then 0 else 3) else 1
theorem Wd.wrong0 {W : Wd} {t p : Int} (h : W.wrong t p = 0) : (0 ≤ t ∧ t ≤ 3) ∧ W.tm t ≠ -1 ∧ 0 ≤ p ∧ p < W.tm t := by
  unfold Wd.wrong at h
  by_cases ht : 0 ≤ t ∧ t ≤ 3
  · rw [if_pos ht] at h
    by_cases hm : W.tm t = -1
    · rw [if_pos hm] at h; exact absurd h (by decide)
    · rw [if_neg hm] at h
      by_cases hp : 0 ≤ p ∧ p < W.tm t
      · exact ⟨ht, hm, hp⟩
      · rw [if_neg hp] at h; exact absurd h (by decide)
  · rw [if_neg ht] at h; exact absurd h (by decide)
theorem S86 {g : KG} {h : KH} {W : Wd} (C1 : CK g h) (C4 : CT h W) {t : Int} (ht : 0 ≤ t ∧ t < 4) {d : Nat} {Q : Option KV → KG → KH → Prop} : Cl (d + 1) 86 [xR (55 + 2 * t)] g h Q = Q (some (xI (bz (W.tm t = -1)))) g h := by
  have T := C4.tm t ht.1 ht.2
  have k := (C1.kt t ht.1 ht.2).1
  rw [E86, ga k]
  rcases T with ⟨T1, T2⟩ | ⟨T1, T2, T3, T4, T5, T6⟩
  · rw [if_neg (by omega), bzt T1]; simp only [B86_13, g11]
  · rw [if_pos (by omega), bzf (by omega)]; simp only [B86_13, g01]
theorem S138 {g : KG} {h : KH} {W : Wd} {l2 r2 : Int} (C1 : CK g h) (C3 : CX g h W l2 r2) (C4 : CT h W) {t p : Int} {d : Nat} {Q : Option KV → KG → KH → Prop} : Cl (d + 3) 138 [xR 0, xI t, xI p] g h Q = Q (some (xI (W.wrong t p))) g h := by
  unfold Wd.wrong
  rw [E138, ga C3.k0, S139]
  by_cases ht : 0 ≤ t ∧ t ≤ 3
  · have ht4 : 0 ≤ t ∧ t < 4 := by omega
    rw [bzt ht, if_pos ht]
    have t0 := C1.t0 t ht.1 (by omega)
    have k := C1.kt t ht.1 (by omega)
    have T := C4.tm t ht.1 (by omega)
    simp (disch := omega) only [B138_5, o1, o0, List.cons_append, List.nil_append, ite_not, bzF, bzT, if_true, if_false, ↓reduceIte, Int.reduceEq, Int.reduceLE, Int.reduceLT, Int.reduceNeg, ne_eq, not_true_eq_false, not_false_eq_true, and_self, and_true, true_and, and_false, false_and, eq_self, C3.k0, C3.p0, C1.k1, C1.l1, t0, k.1, ga, S86 C1 C4 ht4]
    rw [ga ⟨by decide, by omega⟩]
    by_cases hm : W.tm t = -1
    · rw [bzt hm, if_pos hm]
      simp only [B138_19, ite_not, bzF, bzT, if_true, if_false, ↓reduceIte, Int.reduceEq, Int.reduceLE, Int.reduceLT, Int.reduceNeg, ne_eq, not_true_eq_false, not_false_eq_true, and_self, and_true, true_and, and_false, false_and, eq_self]
    · rw [bzf hm, if_neg hm]
      have T6 : h (55 + 2 * t) 1 = W.tm t ∧ 0 ≤ W.tm t ∧ W.tm t ≤ 60 := by omega
      simp (disch := omega) only [B138_19, o1, o0, List.cons_append, List.nil_append, ite_not, bzF, bzT, if_true, if_false, ↓reduceIte, Int.reduceEq, Int.reduceLE, Int.reduceLT, Int.reduceNeg, ne_eq, not_true_eq_false, not_false_eq_true, and_self, and_true, true_and, and_false, false_and, eq_self, C3.k0, C3.p0, C1.k1, C1.l1, t0, k.1, ga, S146, T6.1, w32_id]
      rw [ga ⟨by decide, by omega⟩, bzc (show (0 ≤ p ∧ p ≤ W.tm t - 1) ↔ (0 ≤ p ∧ p < W.tm t) by omega)]
      by_cases hp : 0 ≤ p ∧ p < W.tm t
      · rw [bzt hp, if_pos hp]; simp only [B138_42, B138_50, ite_not, bzF, bzT, if_true, if_false, ↓reduceIte, Int.reduceEq, Int.reduceLE, Int.reduceLT, Int.reduceNeg, ne_eq, not_true_eq_false, not_false_eq_true, and_self, and_true, true_and, and_false, false_and, eq_self]
      · rw [bzf hp, if_neg hp]; simp only [B138_42, B138_50, ite_not, bzF, bzT, if_true, if_false, ↓reduceIte, Int.reduceEq, Int.reduceLE, Int.reduceLT, Int.reduceNeg, ne_eq, not_true_eq_false, not_false_eq_true, and_self, and_true, true_and, and_false, false_and, eq_self]
  · rw [bzf ht, if_neg ht]
    simp only [B138_5, o1, o0, List.cons_append, List.nil_append, ite_not, bzF, bzT, if_true, if_false, ↓reduceIte, Int.reduceEq, Int.reduceLE, Int.reduceLT, Int.reduceNeg, ne_eq, not_true_eq_false, not_false_eq_true, and_self, and_true, true_and, and_false, false_and, eq_self]
theorem S167 {g : KG} {h : KH} {W : Wd} (K : MK g h) (D : MD h W) {t p : Int} {d : Nat} {Q : Option KV → KG → KH → Prop} : Cl (d + 2) 167 [xR 138, xI t, xI p] g h Q = Q (some (xI (W.wrong t p))) g h := by
  unfold Wd.wrong
  rw [E167, S164]
  by_cases ht : 0 ≤ t ∧ t ≤ 3
  · rw [bzt ht, if_pos ht]
    have T := D.tm t ht.1 (by omega)
    simp (disch := omega) only [B167_4, o1, o0, List.cons_append, List.nil_append, ite_not, bzF, bzT, if_true, if_false, ↓reduceIte, Int.reduceEq, Int.reduceLE, Int.reduceLT, Int.reduceNeg, ne_eq, not_true_eq_false, not_false_eq_true, and_self, and_true, true_and, and_false, false_and, eq_self, K.k0, K.p5, K.k141, K.l141, ga, T]
    by_cases hm : W.tm t = -1
    · rw [if_pos hm, if_pos hm]; simp only [B167_44]
    · rw [if_neg hm, if_neg hm]
      by_cases p0 : p < 0
      · rw [if_pos p0, if_neg (by omega)]; simp only [B167_39, B167_44]
      · rw [if_neg p0]
        by_cases p1 : p < W.tm t
        · rw [if_pos p1, if_pos (by omega)]; simp only [B167_44]
        · rw [if_neg p1, if_neg (by omega)]; simp only [B167_39, B167_44]
  · rw [bzf ht, if_neg ht]
    simp only [B167_4, B167_44, o1, o0, List.cons_append, List.nil_append, ite_not, bzF, bzT, if_true, if_false, ↓reduceIte, Int.reduceEq, Int.reduceLE, Int.reduceLT, Int.reduceNeg, ne_eq, not_true_eq_false, not_false_eq_true, and_self, and_true, true_and, and_false, false_and, eq_self]
def cutv (v s : Int) : Int := if s = 0 then w8 (w32 v) else if s = 1 then w16 (w32 v) else if s = 2 then w32 v else v
def Wd.write (W : Wd) (t p v : Int) : Wd × Int := if W.wrong t p = 0 then (W.trs W.ts W.tm (fun x y => if x = t ∧ y = p then cutv v (W.ts t) else W.tv x y) 0, 1) else (W.st (W.wrong t p), 0)
theorem S88 {g : KG} {h : KH} {a b p v s : Int} {d : Nat} {Q : Option KV → KG → KH → Prop} (ka : gK g a = 10) (hs : h a 0 = s) (hb : h a 2 = b) (kb : gK g b = 21) (lb : gL g b = 60) (hp : 0 ≤ p ∧ p < 60) : Cl (d + 1) 88 [xR a, xI p, xL v] g h Q = Q none g (hset h b p (cutv v s)) := by
  unfold cutv
  rw [E88, ga ka, hs]
  by_cases s0 : s = 0
  · simp (disch := omega) only [Sw_cons, Sw_nil, s0, ite_not, bzF, bzT, if_true, if_false, ↓reduceIte, Int.reduceEq, Int.reduceLE, Int.reduceLT, Int.reduceNeg, ne_eq, not_true_eq_false, not_false_eq_true, and_self, and_true, true_and, and_false, false_and, eq_self, B88_32, B88_77, ka, hb, kb, lb, ga]
  · by_cases s1 : s = 1
    · simp (disch := omega) only [Sw_cons, Sw_nil, s1, ite_not, bzF, bzT, if_true, if_false, ↓reduceIte, Int.reduceEq, Int.reduceLE, Int.reduceLT, Int.reduceNeg, ne_eq, not_true_eq_false, not_false_eq_true, and_self, and_true, true_and, and_false, false_and, eq_self, B88_45, B88_77, ka, hb, kb, lb, ga]
    · by_cases s2 : s = 2
      · simp (disch := omega) only [Sw_cons, Sw_nil, s2, ite_not, bzF, bzT, if_true, if_false, ↓reduceIte, Int.reduceEq, Int.reduceLE, Int.reduceLT, Int.reduceNeg, ne_eq, not_true_eq_false, not_false_eq_true, and_self, and_true, true_and, and_false, false_and, eq_self, B88_58, B88_77, ka, hb, kb, lb, ga]
      · simp (disch := omega) only [Sw_cons, Sw_nil, s0, s1, s2, ite_not, bzF, bzT, if_true, if_false, ↓reduceIte, Int.reduceEq, Int.reduceLE, Int.reduceLT, Int.reduceNeg, ne_eq, not_true_eq_false, not_false_eq_true, and_self, and_true, true_and, and_false, false_and, eq_self, B88_70, B88_77, ka, hb, kb, lb, ga]
theorem S165 {g : KG} {h : KH} {v s : Int} {d : Nat} {Q : Option KV → KG → KH → Prop} : Cl (d + 1) 165 [xL v, xI s] g h Q = Q (some (xL (cutv v s))) g h := by
  unfold cutv
  rw [E165]
  by_cases s0 : s = 0
  · simp only [s0, ite_not, bzF, bzT, if_true, if_false, ↓reduceIte, Int.reduceEq, Int.reduceLE, Int.reduceLT, Int.reduceNeg, ne_eq, not_true_eq_false, not_false_eq_true, and_self, and_true, true_and, and_false, false_and, eq_self, B165_35]
  · by_cases s1 : s = 1
    · simp only [s1, ite_not, bzF, bzT, if_true, if_false, ↓reduceIte, Int.reduceEq, Int.reduceLE, Int.reduceLT, Int.reduceNeg, ne_eq, not_true_eq_false, not_false_eq_true, and_self, and_true, true_and, and_false, false_and, eq_self, B165_35]
    · by_cases s2 : s = 2
      · simp only [s2, ite_not, bzF, bzT, if_true, if_false, ↓reduceIte, Int.reduceEq, Int.reduceLE, Int.reduceLT, Int.reduceNeg, ne_eq, not_true_eq_false, not_false_eq_true, and_self, and_true, true_and, and_false, false_and, eq_self, B165_35]
      · simp only [s0, s1, s2, ite_not, bzF, bzT, if_true, if_false, ↓reduceIte, Int.reduceEq, Int.reduceLE, Int.reduceLT, Int.reduceNeg, ne_eq, not_true_eq_false, not_false_eq_true, and_self, and_true, true_and, and_false, false_and, eq_self, B165_35]
theorem C94 {W : Wd} {t p v : Int} : Cw 94 [xR 0, xI t, xI p, xL v] 4 W (W.write t p v) := by
  intro g h C d Q hQ
  have C0 := C
  obtain ⟨l, r, l2, r2, C1, C2, C3, C4, C5, C6, C7⟩ := C
  rw [E94, ga C3.k0, S138 C1 C3 C4]
  simp only [o1, o0, List.cons_append, List.nil_append]
  unfold Wd.write at hQ
  by_cases hw : W.wrong t p = 0
  · rw [if_pos hw] at hQ
    obtain ⟨ht, hm, hp⟩ := Wd.wrong0 hw
    have t0 := C1.t0 t ht.1 (by omega)
    obtain ⟨k1, k2, k3, k4⟩ := C1.kt t ht.1 (by omega)
    have T := C4.tm t ht.1 (by omega)
    have hs : h (55 + 2 * t) 0 = W.ts t := by omega
    rw [hw]
    simp (disch := omega) only [B94_6, o1, o0, List.cons_append, List.nil_append, ite_not, bzF, bzT, if_true, if_false, ↓reduceIte, Int.reduceEq, Int.reduceLE, Int.reduceLT, Int.reduceNeg, ne_eq, not_true_eq_false, not_false_eq_true, and_self, and_true, true_and, and_false, false_and, eq_self, C3.k0, C3.p0, C1.k1, C1.l1, t0, k1, ga]
    rw [ga ⟨by decide, by omega⟩, S88 k1 hs k2 k3 k4 (by omega)]
    simp only [B94_31, B94_35, o1, o0, List.cons_append, List.nil_append, C3.k0, true_and, S133 (k := C3.k0), S134 (k := C3.k0), S135 (k := C3.k0), S136 (k := C3.k0), g11]
    have U := C0.tray (h2 := hset (hset h (56 + 2 * t) p (cutv v (W.ts t))) 0 11 0) (ts := W.ts) (tm := W.tm) (tv := fun x y => if x = t ∧ y = p then cutv v (W.ts t) else W.tv x y) (s := 0) (hset_e _ _ _ _) ⟨?_, ?_⟩ (fun a a0 a1 a2 => by rw [hset_a _ _ _ (by omega), hset_a _ _ _ (by omega)]) (fun x x0 x1 => by rw [hset_a _ _ _ (by omega), hset_a _ _ _ (by omega)]) (fun j hj => by rw [hset_i _ _ hj, hset_a _ _ _ (by omega)])
    exact hQ _ U (fun a ha => by rw [hset_a _ _ _ (by omega), hset_a _ _ _ (by omega)])
    · intro x x0 x1
      rw [hset_a _ _ _ (by omega), hset_a _ _ _ (by omega)]
      exact C4.tm x x0 x1
    · intro x y x0 x1 y0 y1
      rw [hset_a _ _ _ (by omega)]
      show _ = if x = t ∧ y = p then cutv v (W.ts t) else W.tv x y
      by_cases hx : x = t ∧ y = p
      · rw [if_pos hx, hx.1, hx.2, hset_e]
      · rw [if_neg hx]
        by_cases hx1 : x = t
        · rw [hx1, hset_i _ _ (by omega), ← hx1]; exact C4.tv x y x0 x1 y0 y1
        · rw [hset_a _ _ _ (by omega)]; exact C4.tv x y x0 x1 y0 y1
  · rw [if_neg hw] at hQ
    rw [B94_6, if_neg hw, ga C3.k0]
    simp only [B94_19, o1, o0, List.cons_append, List.nil_append, S133 (k := C3.k0), S134 (k := C3.k0), S135 (k := C3.k0), S136 (k := C3.k0), g01]
    exact cst C0 hQ
theorem C168 {W : Wd} (G : W.Rg) {t p v : Int} : Mw 168 [xR 138, xI t, xI p, xL v] 3 W (W.write t p v) := by
  intro g h C O d Q hQ
  have K := C.1
  have M := C.2.2.cur
  rw [E168, ga K.k0, S167 K C.2.2]
  simp only [o1, o0, List.cons_append, List.nil_append]
  unfold Wd.write at hQ
  by_cases hw : W.wrong t p = 0
  · rw [if_pos hw] at hQ
    obtain ⟨ht, hm, hp⟩ := Wd.wrong0 hw
    have T := C.2.2.ts t ht.1 (by omega) hm
    have R := G.1 t ht.1 (by omega)
    rw [hw]
    simp (disch := omega) only [B168_6, o1, o0, List.cons_append, List.nil_append, ite_not, bzF, bzT, if_true, if_false, ↓reduceIte, Int.reduceEq, Int.reduceLE, Int.reduceLT, Int.reduceNeg, ne_eq, not_true_eq_false, not_false_eq_true, and_self, and_true, true_and, and_false, false_and, eq_self, K.k0, K.p4, K.k140, K.l140, ga, T, S165, w32_id, B168_33, K.p6, K.k142, K.l142]
    have z : ∀ c, c ≠ 142 → (hset h 142 (60 * t + p) (cutv v (W.ts t))) c = h c := fun c hc => hset_a _ _ _ hc
    simp only [B168_34, o1, o0, List.cons_append, List.nil_append, K.k0, true_and, S160 (k := K.k0), S161 (k := K.k0), S162 (k := K.k0), B168_40, ite_not, bzF, bzT, if_true, if_false, ↓reduceIte, Int.reduceEq, Int.reduceLE, Int.reduceLT, Int.reduceNeg, ne_eq, not_true_eq_false, not_false_eq_true, and_self, and_true, true_and, and_false, false_and, eq_self, g11]
    have U := C.tray (h2 := hset (hset h 142 (60 * t + p) (cutv v (W.ts t))) 138 1 0) (ts := W.ts) (tm := W.tm) (tv := fun x y => if x = t ∧ y = p then cutv v (W.ts t) else W.tv x y) (s := 0) (hset_e _ _ _ _) (fun a a0 a1 b1 b2 b3 => by rw [hset_a _ _ _ (by omega), z _ b3]) (fun j hj => by rw [hset_i _ _ hj, z _ (by decide)]) (fun x x0 x1 => by rw [hset_a _ _ _ (by decide), z _ (by decide)]; exact C.2.2.tm x x0 x1) (fun x x0 x1 => by rw [hset_a _ _ _ (by decide), z _ (by decide)]; exact C.2.2.ts x x0 x1) ?_
    exact hQ _ U (fun a ha => by rw [hset_a _ _ _ (by omega), z _ (by omega)])
    intro x y x0 x1 y0 y1
    have R2 := G.1 x x0 x1
    rw [hset_a _ _ _ (by decide)]
    show _ = if x = t ∧ y = p then cutv v (W.ts t) else W.tv x y
    by_cases hx : x = t ∧ y = p
    · rw [if_pos hx, hx.1, hx.2, hset_e]
    · rw [if_neg hx, hset_i _ _ (by omega)]; exact C.2.2.tv x y x0 x1 y0 y1
  · rw [if_neg hw] at hQ
    rw [B168_6, if_pos hw, B168_34, ga K.k0]
    simp only [B168_40, o1, o0, List.cons_append, List.nil_append, S160 (k := K.k0), S161 (k := K.k0), S162 (k := K.k0), bzf hw, g01]
    exact mst C hQ
theorem C95 {W : Wd} {t p : Int} : Cans 95 [xR 0, xI t, xI p] 4 W (W.st (W.wrong t p)) (xL (if W.wrong t p = 0 then W.tv t p else -1)) := by
  intro g h C d Q hQ
  have C0 := C
  obtain ⟨l, r, l2, r2, C1, C2, C3, C4, C5, C6, C7⟩ := C
  rw [E95, ga C3.k0, S138 C1 C3 C4]
  simp only [o1, o0, List.cons_append, List.nil_append]
  by_cases hw : W.wrong t p = 0
  · rw [if_pos hw] at hQ
    obtain ⟨ht, hm, hp⟩ := Wd.wrong0 hw
    have t0 := C1.t0 t ht.1 (by omega)
    obtain ⟨k1, k2, k3, k4⟩ := C1.kt t ht.1 (by omega)
    have T := C4.tm t ht.1 (by omega)
    have V := C4.tv t p ht.1 (by omega) hp.1 hp.2
    have z : ∀ c, c ≠ 0 → (hset h 0 11 0) c = h c := fun c hc => hset_a _ _ _ hc
    have z0 : (hset h 0 11 0) 0 0 = 1 := by rw [hset_i _ _ (by decide)]; exact C3.p0
    rw [hw]
    simp (disch := omega) only [B95_6, o1, o0, List.cons_append, List.nil_append, ite_not, bzF, bzT, if_true, if_false, ↓reduceIte, Int.reduceEq, Int.reduceLE, Int.reduceLT, Int.reduceNeg, ne_eq, not_true_eq_false, not_false_eq_true, and_self, and_true, true_and, and_false, false_and, eq_self, C3.k0, z0, C1.k1, C1.l1, z, t0, k1, k2, k3, k4, V, ga]
    rw [hw] at hQ
    rw [ga ⟨by decide, by omega⟩]
    exact cst C0 hQ
  · rw [if_neg hw] at hQ
    rw [B95_6, if_neg hw, ga C3.k0]
    simp only [B95_16, o1, o0, List.cons_append, List.nil_append, S133 (k := C3.k0), S134 (k := C3.k0), S135 (k := C3.k0), S136 (k := C3.k0)]
    exact cst C0 hQ
theorem C169 {W : Wd} (G : W.Rg) {t p : Int} : Mans 169 [xR 138, xI t, xI p] 3 W (W.st (W.wrong t p)) (xL (if W.wrong t p = 0 then W.tv t p else -1)) := by
  intro g h C O d Q hQ
  have K := C.1
  have M := C.2.2.cur
  rw [E169, ga K.k0, S167 K C.2.2]
  simp only [o1, o0, List.cons_append, List.nil_append, B169_7, K.k0, true_and, hset_e]
  by_cases hw : W.wrong t p = 0
  · rw [if_pos hw] at hQ
    obtain ⟨ht, hm, hp⟩ := Wd.wrong0 hw
    have R := G.1 t ht.1 (by omega)
    have V := C.2.2.tv t p ht.1 (by omega) hp.1 hp.2
    have z : ∀ c x, c ≠ 138 → (hset h 138 1 x) c = h c := fun c x hc => hset_a _ _ _ hc
    have z0 : ∀ x, (hset h 138 1 x) 138 6 = 142 := fun x => by rw [hset_i _ _ (by decide)]; exact K.p6
    rw [hw] at hQ ⊢
    simp (disch := omega) only [Int.le_refl, if_true, z0, w32_id, K.k142, K.l142, ga, z, V, B169_34]
    exact mst C hQ
  · rw [if_neg hw] at hQ
    have : ¬ W.wrong t p ≤ 0 := by
      have : 0 ≤ W.wrong t p := by unfold Wd.wrong; split <;> (try split) <;> (try split) <;> decide
      omega
    rw [if_neg this]
    simp only [B169_34]
    exact mst C hQ
