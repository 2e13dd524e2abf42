/-! WHAT A CALL DOES, for both sides: from a world to a world, with an answer. -/
def Cans (k : Nat) (as : List KV) (H : Nat) (W W2 : Wd) (v : KV) : Prop := ∀ (g : KG) (h : KH), CR g h W → ∀ (d : Nat) (Q : Option KV → KG → KH → Prop), (∀ h2 : KH, CR g h2 W2 → (∀ a, (a < 0 ∨ 138 ≤ a) → h2 a = h a) → Q (some v) g h2) → Cl (d + H) k as g h Q
def Mans (k : Nat) (as : List KV) (H : Nat) (W W2 : Wd) (v : KV) : Prop := ∀ (g : KG) (h : KH), MR g h W → W.cur.Ok → ∀ (d : Nat) (Q : Option KV → KG → KH → Prop), (∀ h2 : KH, MR g h2 W2 → (∀ a, a < 138 → h2 a = h a) → Q (some v) g h2) → Cl (d + H) k as g h Q
theorem CR.st {g : KG} {h h2 : KH} {W : Wd} (C : CR g h W) {s : Int} (e : ∀ a, 0 ≤ a → a < 138 → ¬ qc a → h2 a = h a) (e0 : ∀ j, j ≠ 11 → h2 0 j = h 0 j) (ej : h2 35 0 = h 35 0) (es : h2 0 11 = s) : CR g h2 (W.st s) := by
  have U := C.upd e (fun j h1 _ _ => e0 j h1) ej
  obtain ⟨l, r, l2, r2, C1, C2, C3, -⟩ := C
  rw [es, e0 12 (by decide), e0 13 (by decide), C3.top, C3.bot] at U
  exact U
theorem CR.tl {g : KG} {h h2 : KH} {W : Wd} (C : CR g h W) {a b : Int} (e : ∀ a, 0 ≤ a → a < 138 → ¬ qc a → h2 a = h a) (e0 : ∀ j, j ≠ 11 → j ≠ 12 → j ≠ 13 → h2 0 j = h 0 j) (ej : h2 35 0 = h 35 0) (es : h2 0 11 = 0) (ea : h2 0 12 = a) (eb : h2 0 13 = b) : CR g h2 (W.tl a b) := by
  have U := C.upd e e0 ej
  rw [es, ea, eb] at U
  exact U
theorem MR.st {g : KG} {h h2 : KH} {W : Wd} (C : MR g h W) {s : Int} (e : ∀ a, 139 ≤ a → a < 155 → (a < 147 ∨ a = 152) → h2 a = h a) (e0 : ∀ j, (j ≠ 1 ∧ j ≠ 26 ∧ j ≠ 27 ∧ j ≠ 30) → h2 138 j = h 138 j) (es : h2 138 1 = s) : MR g h2 (W.st s) := by
  have U := C.upd e (fun j hj => e0 j (by unfold qm at hj; omega))
  rw [es, e0 2 (by decide), e0 3 (by decide), C.2.1.top, C.2.1.bot] at U
  exact U
theorem MR.tl {g : KG} {h h2 : KH} {W : Wd} (C : MR g h W) {a b : Int} (e : ∀ a, 139 ≤ a → a < 155 → (a < 147 ∨ a = 152) → h2 a = h a) (e0 : ∀ j, ¬ qm j → h2 138 j = h 138 j) (es : h2 138 1 = 0) (ea : h2 138 2 = a) (eb : h2 138 3 = b) : MR g h2 (W.tl a b) := by
  have U := C.upd e e0
  rw [es, ea, eb] at U
  exact U
/-- how most calls of the class end: the status alone is written -/
theorem cst {g : KG} {h : KH} {W : Wd} (C : CR g h W) {s : Int} {v : KV} {Q : Option KV → KG → KH → Prop} (hQ : ∀ h2 : KH, CR g h2 (W.st s) → (∀ a, (a < 0 ∨ 138 ≤ a) → h2 a = h a) → Q (some v) g h2) : Q (some v) g (hset h 0 11 s) :=
  hQ _ (C.st (fun a h0 h1 hq => hset_a h 11 s (by unfold qc at hq; omega)) (fun j hj => hset_i h s hj) (by rw [hset_a h 11 s (by decide)]) (hset_e h 0 11 s)) (fun a ha => hset_a h 11 s (by omega))
theorem mst {g : KG} {h : KH} {W : Wd} (C : MR g h W) {s : Int} {v : KV} {Q : Option KV → KG → KH → Prop} (hQ : ∀ h2 : KH, MR g h2 (W.st s) → (∀ a, a < 138 → h2 a = h a) → Q (some v) g h2) : Q (some v) g (hset h 138 1 s) :=
  hQ _ (C.st (fun a h0 h1 hq => hset_a h 1 s (by omega)) (fun j hj => hset_i h s hj.1) (hset_e h 138 1 s)) (fun a ha => hset_a h 1 s (by omega))
/-! the class's now, with its objects' numbers -/
theorem SR.n3 {g : KG} {h : KH} {l r : Int} {A : St} (S : SR g h 6 l r A) : h 6 3 = 23 := S.p3
theorem SR.n4 {g : KG} {h : KH} {l r : Int} {A : St} (S : SR g h 6 l r A) : h 6 4 = 24 := S.p4
theorem SR.n5 {g : KG} {h : KH} {l r : Int} {A : St} (S : SR g h 6 l r A) : h 6 5 = 25 := S.p5
theorem SR.n6 {g : KG} {h : KH} {l r : Int} {A : St} (S : SR g h 6 l r A) : h 6 6 = 26 := S.p6
theorem SR.n7 {g : KG} {h : KH} {l r : Int} {A : St} (S : SR g h 6 l r A) : h 6 7 = 27 := S.p7
theorem SR.n8 {g : KG} {h : KH} {l r : Int} {A : St} (S : SR g h 6 l r A) : h 6 8 = 28 := S.p8
theorem SR.n9 {g : KG} {h : KH} {l r : Int} {A : St} (S : SR g h 6 l r A) : h 6 9 = 29 := S.p9
theorem SR.n10 {g : KG} {h : KH} {l r : Int} {A : St} (S : SR g h 6 l r A) : h 6 10 = 30 := S.p10
theorem SR.m23 {g : KG} {h : KH} {l r : Int} {A : St} (S : SR g h 6 l r A) : gK g 23 = 20 := S.k17
theorem SR.m24 {g : KG} {h : KH} {l r : Int} {A : St} (S : SR g h 6 l r A) : gK g 24 = 20 := S.k18
theorem SR.m25 {g : KG} {h : KH} {l r : Int} {A : St} (S : SR g h 6 l r A) : gK g 25 = 20 := S.k19
theorem SR.m26 {g : KG} {h : KH} {l r : Int} {A : St} (S : SR g h 6 l r A) : gK g 26 = 20 := S.k20
theorem SR.m27 {g : KG} {h : KH} {l r : Int} {A : St} (S : SR g h 6 l r A) : gK g 27 = 20 := S.k21
theorem SR.m28 {g : KG} {h : KH} {l r : Int} {A : St} (S : SR g h 6 l r A) : gK g 28 = 20 := S.k22
theorem SR.m29 {g : KG} {h : KH} {l r : Int} {A : St} (S : SR g h 6 l r A) : gK g 29 = 20 := S.k23
theorem SR.m30 {g : KG} {h : KH} {l r : Int} {A : St} (S : SR g h 6 l r A) : gK g 30 = 20 := S.k24
theorem SR.w23 {g : KG} {h : KH} {l r : Int} {A : St} (S : SR g h 6 l r A) : gL g 23 = 16 := S.l17
theorem SR.w24 {g : KG} {h : KH} {l r : Int} {A : St} (S : SR g h 6 l r A) : gL g 24 = 16 := S.l18
theorem SR.w25 {g : KG} {h : KH} {l r : Int} {A : St} (S : SR g h 6 l r A) : gL g 25 = 16 := S.l19
theorem SR.w26 {g : KG} {h : KH} {l r : Int} {A : St} (S : SR g h 6 l r A) : gL g 26 = 16 := S.l20
theorem SR.w27 {g : KG} {h : KH} {l r : Int} {A : St} (S : SR g h 6 l r A) : gL g 27 = 16 := S.l21
theorem SR.w28 {g : KG} {h : KH} {l r : Int} {A : St} (S : SR g h 6 l r A) : gL g 28 = 16 := S.l22
theorem SR.w29 {g : KG} {h : KH} {l r : Int} {A : St} (S : SR g h 6 l r A) : gL g 29 = 16 := S.l23
theorem SR.w30 {g : KG} {h : KH} {l r : Int} {A : St} (S : SR g h 6 l r A) : gL g 30 = 16 := S.l24
theorem SR.v23 {g : KG} {h : KH} {l r : Int} {A : St} (S : SR g h 6 l r A) : ∀ i, ins A i → h 23 i = A.ask i := S.ask
theorem SR.v24 {g : KG} {h : KH} {l r : Int} {A : St} (S : SR g h 6 l r A) : ∀ i, ins A i → h 24 i = A.dr i := S.dr
theorem SR.v25 {g : KG} {h : KH} {l r : Int} {A : St} (S : SR g h 6 l r A) : ∀ i, ins A i → h 25 i = A.fr i := S.fr
theorem SR.v26 {g : KG} {h : KH} {l r : Int} {A : St} (S : SR g h 6 l r A) : ∀ i, ins A i → h 26 i = A.tt i := S.tt
theorem SR.v27 {g : KG} {h : KH} {l r : Int} {A : St} (S : SR g h 6 l r A) : ∀ i, ins A i → h 27 i = A.pa i := S.pa
theorem SR.v28 {g : KG} {h : KH} {l r : Int} {A : St} (S : SR g h 6 l r A) : ∀ i, ins A i → h 28 i = A.cd i := S.cd
theorem SR.v29 {g : KG} {h : KH} {l r : Int} {A : St} (S : SR g h 6 l r A) : ∀ i, ins A i → h 29 i = A.tr i := S.tr
theorem SR.v30 {g : KG} {h : KH} {l r : Int} {A : St} (S : SR g h 6 l r A) : ∀ i, ins A i → A.tr i = 3 → h 30 i = A.hf i := S.hf
/-! status, top, bottom -/
theorem C90 {W : Wd} : Cans 90 [xR 0] 1 W W (xI W.stt) := by
  intro g h C d Q hQ
  have C0 := C
  obtain ⟨l, r, l2, r2, C1, C2, C3, C4, C5, C6, C7⟩ := C
  simp only [E90, C3.k0, C3.stt, true_and]
  exact hQ h C0 (fun _ _ => rfl)
theorem C91 {W : Wd} : Cans 91 [xR 0] 1 W W (xL W.top) := by
  intro g h C d Q hQ
  have C0 := C
  obtain ⟨l, r, l2, r2, C1, C2, C3, C4, C5, C6, C7⟩ := C
  simp only [E91, C3.k0, C3.top, true_and]
  exact hQ h C0 (fun _ _ => rfl)
theorem C92 {W : Wd} : Cans 92 [xR 0] 1 W W (xL W.bot) := by
  intro g h C d Q hQ
  have C0 := C
  obtain ⟨l, r, l2, r2, C1, C2, C3, C4, C5, C6, C7⟩ := C
  simp only [E92, C3.k0, C3.bot, true_and]
  exact hQ h C0 (fun _ _ => rfl)
theorem C157 {W : Wd} : Mans 157 [xR 138] 1 W W (xI W.stt) := by
  intro g h C O d Q hQ
  simp only [E157, C.1.k0, C.2.1.stt, true_and]
  exact hQ h C (fun _ _ => rfl)
theorem C158 {W : Wd} : Mans 158 [xR 138] 1 W W (xL W.top) := by
  intro g h C O d Q hQ
  simp only [E158, C.1.k0, C.2.1.top, true_and]
  exact hQ h C (fun _ _ => rfl)
theorem C159 {W : Wd} : Mans 159 [xR 138] 1 W W (xL W.bot) := by
  intro g h C O d Q hQ
  simp only [E159, C.1.k0, C.2.1.bot, true_and]
  exact hQ h C (fun _ _ => rfl)
/-! fault -/
def Wd.fault (W : Wd) (w : Int) : Int := if w = 0 then W.fk else if w = 1 then W.fp else -1
theorem C100 {W : Wd} {w : Int} : Cans 100 [xR 0, xI w] 2 W W (xI (W.fault w)) := by
  intro g h C d Q hQ
  have hQ := hQ h C (fun _ _ => rfl)
  obtain ⟨l, r, l2, r2, C1, C2, C3, C4, C5, C6, C7⟩ := C
  unfold Wd.fault at hQ
  rcases C5.fa with ⟨f0, f1, f2⟩ | ⟨f0, f1, f2⟩
  · rw [f1, f2, ite_self, ite_self] at hQ
    simp only [E100, B100_14, B100_17, B100_40, C3.k0, f0, true_and, if_true]
    exact hQ
  · by_cases w0 : w = 0
    · rw [if_pos w0] at hQ
      simp only [E100, B100_14, B100_17, B100_40, S146, o1, List.cons_append, List.nil_append, C3.k0, f0, true_and, bzt (show 0 ≤ w ∧ w ≤ 1 by omega), w0]
      simp only [C3.p1, C1.k2, f1, E100, B100_14, B100_17, B100_40, ne_eq, not_true_eq_false, if_false, true_and]
      exact hQ
    · rw [if_neg w0] at hQ
      by_cases w1 : w = 1
      · rw [if_pos w1] at hQ
        simp [E100, B100_14, B100_17, B100_40, S146, o1, C3.k0, f0, bzt (show 0 ≤ w ∧ w ≤ 1 by omega), w1, C3.p1, C1.k2, f2, bz]
        exact hQ
      · rw [if_neg w1] at hQ
        simp [E100, B100_14, B100_17, B100_40, S146, o1, C3.k0, f0, bzf (show ¬ (0 ≤ w ∧ w ≤ 1) by omega)]
        exact hQ
theorem C183 {W : Wd} {w : Int} : Mans 183 [xR 138, xI w] 1 W W (xI (W.fault w)) := by
  intro g h C O d Q hQ
  have hQ := hQ h C (fun _ _ => rfl)
  unfold Wd.fault at hQ
  by_cases w0 : w = 0
  · simp [E183, B183_24, w0, C.1.k0, C.2.1.fk]
    simpa [w0] using hQ
  · by_cases w1 : w = 1
    · simp [E183, B183_24, w1, C.1.k0, C.2.1.fp]
      simpa [w1] using hQ
    · simp [E183, B183_24, w0, w1, C.1.k0]
      simpa [w0, w1] using hQ
