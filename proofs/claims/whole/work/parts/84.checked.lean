/-! checked: the best set for a sum of coins -/
def csm (f : Nat → Int) (v : Nat) : Nat → Int
  | 0 => 0
  | n + 1 => csm f v n + (if v.testBit n = true then f n else 0)
theorem csm_con {f : Nat → Int} {v w : Nat} : ∀ n, (∀ j, j < n → v.testBit j = w.testBit j) → csm f v n = csm f w n := by
  intro n
  induction n with
  | zero => intro _; rfl
  | succ n ih => intro H; rw [csm, csm, ih (fun j hj => H j (by omega)), H n (by omega)]
theorem csm_r {f : Nat → Int} {b : Int} (hf : ∀ j, 0 ≤ f j ∧ f j ≤ b) (v : Nat) : ∀ n : Nat, 0 ≤ csm f v n ∧ csm f v n ≤ n * b := by
  intro n
  induction n with
  | zero => exact ⟨Int.le_refl 0, by rw [show ((0 : Nat) : Int) = 0 from rfl, Int.zero_mul]; exact Int.le_refl 0⟩
  | succ n ih =>
    have := hf n
    have e : ((n + 1 : Nat) : Int) * b = n * b + b := by rw [show ((n + 1 : Nat) : Int) = (n : Int) + 1 by omega, Int.add_mul, Int.one_mul]
    rw [csm, e]
    split <;> omega
theorem csm_0 (f : Nat → Int) : ∀ n, csm f 0 n = 0 := by
  intro n
  induction n with
  | zero => rfl
  | succ n ih => rw [csm, ih, Nat.zero_testBit]; rfl
theorem csm_lo {f : Nat → Int} {v n : Nat} (h : v < 2 ^ n) : csm f v (n + 1) = csm f v n := by
  rw [csm, Nat.testBit_lt_two_pow h]
  exact Int.add_zero _
theorem csm_hi {f : Nat → Int} {v n : Nat} (h : v < 2 ^ n) : csm f (2 ^ n + v) (n + 1) = csm f v n + f n := by
  rw [csm, Nat.testBit_two_pow_add_eq, Nat.testBit_lt_two_pow h, csm_con (v := 2 ^ n + v) (w := v) n (fun j hj => Nat.testBit_two_pow_add_gt hj v)]
  rfl
/-- b is the least set of the first n with the greatest sum m that c pays for -/
def Best (f w : Nat → Int) (n : Nat) (c : Int) (b : Nat) (m : Int) : Prop := (b < 2 ^ n) ∧ (csm f b n ≤ c) ∧ (csm w b n = m) ∧ (∀ v, v < 2 ^ n → csm f v n ≤ c → csm w v n ≤ m ∧ (v < b → csm w v n < m))
theorem Best.lt {f w : Nat → Int} {n : Nat} {c : Int} {b : Nat} {m : Int} (z_ : Best f w n c b m) : b < 2 ^ n := z_.1
theorem Best.co {f w : Nat → Int} {n : Nat} {c : Int} {b : Nat} {m : Int} (z_ : Best f w n c b m) : csm f b n ≤ c := z_.2.1
theorem Best.su {f w : Nat → Int} {n : Nat} {c : Int} {b : Nat} {m : Int} (z_ : Best f w n c b m) : csm w b n = m := z_.2.2.1
theorem Best.le {f w : Nat → Int} {n : Nat} {c : Int} {b : Nat} {m : Int} (z_ : Best f w n c b m) : ∀ v, v < 2 ^ n → csm f v n ≤ c → csm w v n ≤ m ∧ (v < b → csm w v n < m) := z_.2.2.2
theorem Best.uniq {f w : Nat → Int} {n : Nat} {c : Int} {b b2 : Nat} {m m2 : Int} (H : Best f w n c b m) (G : Best f w n c b2 m2) : b = b2 ∧ m = m2 := by
  have h1 := H.le b2 G.lt G.co
  have h2 := G.le b H.lt H.co
  have e1 := H.su
  have e2 := G.su
  have em : m = m2 := by omega
  refine ⟨?_, em⟩
  by_cases l1 : b2 < b
  · have := h1.2 l1; omega
  · by_cases l2 : b < b2
    · have := h2.2 l2; omega
    · omega
def kn (f w : Nat → Int) : Nat → Int → Int × Int
  | 0, _ => (0, 0)
  | i + 1, c => if f i ≤ c ∧ (kn f w i c).1 < (kn f w i (c - f i)).1 + w i then ((kn f w i (c - f i)).1 + w i, or32 (kn f w i (c - f i)).2 (shl32 1 i)) else kn f w i c
theorem kn_s (f w : Nat → Int) (i : Nat) (c : Int) : kn f w (i + 1) c = if f i ≤ c ∧ (kn f w i c).1 < (kn f w i (c - f i)).1 + w i then ((kn f w i (c - f i)).1 + w i, or32 (kn f w i (c - f i)).2 (shl32 1 i)) else kn f w i c := rfl
theorem kn_best {f w : Nat → Int} (hf : ∀ j, 0 ≤ f j) : ∀ n : Nat, n ≤ 16 → ∀ c : Int, 0 ≤ c → ∃ b : Nat, (kn f w n c).2 = (b : Int) ∧ Best f w n c b (kn f w n c).1 := by
  intro n
  induction n with
  | zero =>
    intro _ c hc
    exact ⟨0, rfl, ⟨Nat.lt_succ_self 0, hc, rfl, fun v hv _ => ⟨Int.le_refl 0, fun h => by omega⟩⟩⟩
  | succ n ih =>
    intro hn c hc
    obtain ⟨b1, e1, B1⟩ := ih (by omega) c hc
    have P2 : 2 ^ (n + 1) = 2 ^ n + 2 ^ n := by rw [Nat.pow_succ, Nat.mul_two]
    rw [kn_s]
    by_cases hc2 : f n ≤ c
    · obtain ⟨b2, e2, B2⟩ := ih (by omega) (c - f n) (by omega)
      have l2 := B2.lt
      have p := p16 (n := n) (by omega)
      by_cases hb : (kn f w n c).1 < (kn f w n (c - f n)).1 + w n
      · rw [if_pos ⟨hc2, hb⟩]
        refine ⟨2 ^ n + b2, ?_, ⟨by omega, ?_, ?_, fun v hv hcv => ?_⟩⟩
        · show or32 (kn f w n (c - f n)).2 (shl32 1 n) = _
          rw [e2, shl_1 (by omega), or_n (b := 2 ^ n) _ (by omega) (by omega) rfl, Nat.or_comm]
          have z := Nat.two_pow_add_eq_or_of_lt l2 1
          rw [Nat.mul_one] at z
          rw [z]
        · rw [csm_hi l2]; have := B2.co; omega
        · rw [csm_hi l2, B2.su]
        · by_cases hv2 : v < 2 ^ n
          · rw [csm_lo hv2] at hcv ⊢
            have := (B1.le v hv2 hcv).1
            show csm w v n ≤ (kn f w n (c - f n)).1 + w n ∧ (_ → csm w v n < (kn f w n (c - f n)).1 + w n)
            exact ⟨by omega, fun _ => by omega⟩
          · obtain ⟨u, rfl⟩ : ∃ u, v = 2 ^ n + u := ⟨v - 2 ^ n, by omega⟩
            have hu : u < 2 ^ n := by omega
            rw [csm_hi hu] at hcv ⊢
            have := B2.le u hu (by omega)
            show csm w u n + w n ≤ (kn f w n (c - f n)).1 + w n ∧ (_ → csm w u n + w n < (kn f w n (c - f n)).1 + w n)
            exact ⟨by omega, fun h => by have := this.2 (by omega); omega⟩
      · rw [if_neg (fun z => hb z.2)]
        refine ⟨b1, e1, ⟨by have := B1.lt; omega, by rw [csm_lo B1.lt]; exact B1.co, by rw [csm_lo B1.lt]; exact B1.su, fun v hv hcv => ?_⟩⟩
        by_cases hv2 : v < 2 ^ n
        · rw [csm_lo hv2] at hcv ⊢
          exact B1.le v hv2 hcv
        · obtain ⟨u, rfl⟩ : ∃ u, v = 2 ^ n + u := ⟨v - 2 ^ n, by omega⟩
          have hu : u < 2 ^ n := by omega
          rw [csm_hi hu] at hcv ⊢
          have := B2.le u hu (by omega)
          have := B1.lt
          exact ⟨by omega, fun h => by omega⟩
    · rw [if_neg (fun z => hc2 z.1)]
      refine ⟨b1, e1, ⟨by have := B1.lt; omega, by rw [csm_lo B1.lt]; exact B1.co, by rw [csm_lo B1.lt]; exact B1.su, fun v hv hcv => ?_⟩⟩
      by_cases hv2 : v < 2 ^ n
      · rw [csm_lo hv2] at hcv ⊢
        exact B1.le v hv2 hcv
      · obtain ⟨u, rfl⟩ : ∃ u, v = 2 ^ n + u := ⟨v - 2 ^ n, by omega⟩
        have hu : u < 2 ^ n := by omega
        rw [csm_hi hu] at hcv
        have : 0 ≤ csm f u n := by
          have lp : ∀ m : Nat, 0 ≤ csm f u m := by
            intro m
            induction m with
            | zero => exact Int.le_refl 0
            | succ m im => have := hf m; rw [csm]; split <;> omega
          exact lp n
        omega
def bfd (f w : Nat → Int) (n : Nat) (c : Int) : Nat → Nat × Int
  | 0 => (0, 0)
  | v + 1 => if csm f v n ≤ c ∧ (bfd f w n c v).2 < csm w v n then (v, csm w v n) else bfd f w n c v
theorem bfd_s (f w : Nat → Int) (n : Nat) (c : Int) (v : Nat) : bfd f w n c (v + 1) = if csm f v n ≤ c ∧ (bfd f w n c v).2 < csm w v n then (v, csm w v n) else bfd f w n c v := rfl
theorem bfd_i (f w : Nat → Int) (n : Nat) (c : Int) : ∀ N : Nat, 0 ≤ (bfd f w n c N).2 ∧ (((bfd f w n c N).1 = 0 ∧ (bfd f w n c N).2 = 0) ∨ ((bfd f w n c N).1 < N ∧ csm f (bfd f w n c N).1 n ≤ c ∧ csm w (bfd f w n c N).1 n = (bfd f w n c N).2)) ∧ ∀ v, v < N → csm f v n ≤ c → csm w v n ≤ (bfd f w n c N).2 ∧ (v < (bfd f w n c N).1 → csm w v n < (bfd f w n c N).2) := by
  intro N
  induction N with
  | zero => exact ⟨Int.le_refl 0, Or.inl ⟨rfl, rfl⟩, fun v hv => by omega⟩
  | succ N ih =>
    rw [bfd_s]
    obtain ⟨i1, i2, i3⟩ := ih
    by_cases h : csm f N n ≤ c ∧ (bfd f w n c N).2 < csm w N n
    · rw [if_pos h]
      refine ⟨by show 0 ≤ csm w N n; omega, Or.inr ⟨Nat.lt_succ_self N, h.1, rfl⟩, fun v hv hc => ?_⟩
      show csm w v n ≤ csm w N n ∧ (v < N → csm w v n < csm w N n)
      by_cases e : v = N
      · rw [e]; exact ⟨Int.le_refl _, fun z => by omega⟩
      · have := i3 v (by omega) hc
        exact ⟨by omega, fun _ => by omega⟩
    · rw [if_neg h]
      refine ⟨i1, ?_, fun v hv hc => ?_⟩
      · rcases i2 with z | z
        · exact Or.inl z
        · exact Or.inr ⟨by omega, z.2⟩
      · by_cases e : v = N
        · rw [e] at hc ⊢
          have : ¬ (bfd f w n c N).2 < csm w N n := fun z => h ⟨hc, z⟩
          refine ⟨by omega, fun z => ?_⟩
          rcases i2 with y | y
          · rw [y.1] at z; omega
          · omega
        · exact i3 v (by omega) hc
theorem bfd_best (f w : Nat → Int) (n : Nat) {c : Int} (hc : 0 ≤ c) : Best f w n c (bfd f w n c (2 ^ n)).1 (bfd f w n c (2 ^ n)).2 := by
  obtain ⟨i1, i2, i3⟩ := bfd_i f w n c (2 ^ n)
  have p := Nat.two_pow_pos n
  rcases i2 with ⟨z1, z2⟩ | ⟨z1, z2, z3⟩
  · refine ⟨by rw [z1]; exact p, by rw [z1, csm_0]; exact hc, by rw [z1, z2, csm_0], i3⟩
  · exact ⟨z1, z2, z3, i3⟩
def St.cst (A : St) (i : Nat) : Int := if i < A.ns.toNat then A.steps 0 (A.dr i) + 1 else 1
def St.val (A : St) (sh : Int) (i : Nat) : Int := if i < A.ns.toNat then (if A.mside i (A.pa i) sh + A.aside i (A.pa i) sh = 0 then 0 else A.mside i (A.pa i) sh * 4096 / (A.mside i (A.pa i) sh + A.aside i (A.pa i) sh)) else 0
theorem cst_r {A : St} (O : A.Ok) (i : Nat) : 1 ≤ A.cst i ∧ A.cst i ≤ 199 := by
  unfold St.cst
  split
  · rename_i h
    have hi : ins A i := ⟨by omega, by omega⟩
    have d := O.dr i hi
    have := O.steps (a := 0) (b := A.dr i) ⟨by decide, by omega⟩ d
    omega
  · decide
theorem val_r {A : St} (O : A.Ok) {sh : Int} (hs : 0 ≤ sh ∧ sh ≤ 16) (i : Nat) : 0 ≤ A.val sh i ∧ A.val sh i ≤ 4096 := by
  unfold St.val
  split
  · rename_i h
    have hi : ins A i := ⟨by omega, by omega⟩
    have b1 := O.mside (s := i) (O.pa i hi) hs
    have b2 := O.aside (s := i) (O.pa i hi) hs
    split
    · decide
    · rename_i hz
      generalize A.mside i (A.pa i) sh = a at *
      generalize A.aside i (A.pa i) sh = b at *
      refine ⟨Int.ediv_nonneg (by omega) (by omega), ?_⟩
      have : a * 4096 / (a + b) < 4097 := Int.ediv_lt_of_lt_mul (by omega) (by omega)
      omega
  · decide
def Wd.fsk (W : Wd) (m : Int) : Wd := Wd.mk_ W.cur W.mks W.nmk W.ts W.tm W.tv W.tp W.fed 0 W.top W.bot W.fk W.fp W.hm W.hd m
def Wd.check (W : Wd) (c sh : Int) : Wd × Int := if (0 ≤ c ∧ c ≤ 999) ∧ 0 ≤ sh ∧ sh ≤ 16 then (W.fsk (bfd W.cur.cst (W.cur.val sh) W.cur.ns.toNat c (2 ^ W.cur.ns.toNat)).2, ((bfd W.cur.cst (W.cur.val sh) W.cur.ns.toNat c (2 ^ W.cur.ns.toNat)).1 : Nat)) else (W.st 1, -1)
