/-! walked -/
/-- does sheet x fit behind y -/
abbrev St.fit (A : St) (x y : Int) : Prop := A.tt y + A.mins (A.dr y) (A.dr x) ≤ A.fr x
def St.lgj (A : St) (L : List Int) (lg : Int → Int) (i : Nat) : Nat → Int
  | 0 => 1
  | n + 1 => if A.lgj L lg i n ≤ lg (i + 1 + n : Nat) ∧ A.fit (L.getD (i + 1 + n) 0) (L.getD i 0) then lg (i + 1 + n : Nat) + 1 else A.lgj L lg i n
def St.lgm (A : St) (L : List Int) : Nat → Int → Int
  | 0 => fun _ => 1
  | n + 1 => kset (A.lgm L n) (L.length - (n + 1) : Nat) (A.lgj L (A.lgm L n) (L.length - (n + 1)) n)
def St.lgx (A : St) (L : List Int) : Nat → Int
  | 0 => 0
  | n + 1 => if A.lgx L n < A.lgm L (n + 1) (L.length - (n + 1) : Nat) then A.lgm L (n + 1) (L.length - (n + 1) : Nat) else A.lgx L n
theorem lgj_r {A : St} {L : List Int} {lg : Int → Int} {i : Nat} {b : Int} (H : ∀ j, 1 ≤ lg j ∧ lg j ≤ b) (hb : 0 ≤ b) : ∀ n, 1 ≤ A.lgj L lg i n ∧ A.lgj L lg i n ≤ b + 1 := by
  intro n
  induction n with
  | zero => exact ⟨by show (1 : Int) ≤ 1; decide, by show (1 : Int) ≤ b + 1; omega⟩
  | succ n ih =>
    unfold St.lgj
    split
    · have := H (i + 1 + n : Nat); omega
    · exact ih
theorem lgm_r {A : St} {L : List Int} : ∀ n : Nat, ∀ j, 1 ≤ A.lgm L n j ∧ A.lgm L n j ≤ (n : Int) + 1 := by
  intro n
  induction n with
  | zero => intro j; exact ⟨by show (1 : Int) ≤ 1; decide, by show (1 : Int) ≤ 0 + 1; decide⟩
  | succ n ih =>
    intro j
    unfold St.lgm kset
    split
    · have := lgj_r (A := A) (L := L) (i := L.length - (n + 1)) ih (by omega) n
      omega
    · have := ih j; omega
theorem lgx_r {A : St} {L : List Int} : ∀ n : Nat, 0 ≤ A.lgx L n ∧ A.lgx L n ≤ (n : Int) + 1 := by
  intro n
  induction n with
  | zero => exact ⟨by show (0 : Int) ≤ 0; decide, by show (0 : Int) ≤ 0 + 1; decide⟩
  | succ n ih =>
    unfold St.lgx
    have := lgm_r (A := A) (L := L) (n + 1) (L.length - (n + 1) : Nat)
    split <;> omega
/-- the walk that is taken: what is wanted still, the set, the last -/
def St.wks (A : St) (L : List Int) (lg : Int → Int) (w : Int) : Nat → Int × Int × Int
  | 0 => (w, 0, -1)
  | k + 1 => if lg k = (A.wks L lg w k).1 ∧ ((A.wks L lg w k).2.2 = -1 ∨ A.fit (L.getD k 0) (A.wks L lg w k).2.2) then ((A.wks L lg w k).1 - 1, or32 (A.wks L lg w k).2.1 (shl32 1 (L.getD k 0)), L.getD k 0) else A.wks L lg w k
theorem wks_s (A : St) (L : List Int) (lg : Int → Int) (w : Int) (k : Nat) : A.wks L lg w (k + 1) = if lg k = (A.wks L lg w k).1 ∧ ((A.wks L lg w k).2.2 = -1 ∨ A.fit (L.getD k 0) (A.wks L lg w k).2.2) then ((A.wks L lg w k).1 - 1, or32 (A.wks L lg w k).2.1 (shl32 1 (L.getD k 0)), L.getD k 0) else A.wks L lg w k := rfl
theorem wks_r {A : St} {L : List Int} {lg : Int → Int} {w : Int} (H : ∀ j, 1 ≤ lg j) (hw : 0 ≤ w) : ∀ k, 0 ≤ (A.wks L lg w k).1 ∧ (A.wks L lg w k).1 ≤ w := by
  intro k
  induction k with
  | zero => exact ⟨hw, Int.le_refl _⟩
  | succ k ih =>
    rw [wks_s]
    split
    · rename_i hc
      have := H k
      show 0 ≤ (A.wks L lg w k).1 - 1 ∧ (A.wks L lg w k).1 - 1 ≤ w
      omega
    · exact ih
theorem wks_end {A : St} {L : List Int} {lg : Int → Int} {w : Int} (H : ∀ j, 1 ≤ lg j) {k : Nat} (h0 : (A.wks L lg w k).1 ≤ 0) : ∀ n, A.wks L lg w (k + n) = A.wks L lg w k := by
  intro n
  induction n with
  | zero => rfl
  | succ n ih =>
    have := H (k + n : Nat)
    rw [← Nat.add_assoc, wks_s, ih, if_neg (by omega)]
/-- the last taken is one of the list, or none -/
theorem wks_l {A : St} {L : List Int} {lg : Int → Int} {w : Int} : ∀ k, k ≤ L.length → (A.wks L lg w k).2.2 = -1 ∨ ∃ i, i < k ∧ (A.wks L lg w k).2.2 = L.getD i 0 := by
  intro k
  induction k with
  | zero => intro _; exact Or.inl rfl
  | succ k ih =>
    intro hk
    rw [wks_s]
    split
    · exact Or.inr ⟨k, by omega, rfl⟩
    · rcases ih (by omega) with h | ⟨i, h1, h2⟩
      · exact Or.inl h
      · exact Or.inr ⟨i, by omega, h2⟩
def lok (L : List Int) (k : Nat) (v li : Int) : Prop := (v = -1 ∧ li = -1) ∨ ∃ i : Nat, i < k ∧ li = i ∧ v = L.getD i 0
theorem lok_s {L : List Int} {k : Nat} {v li : Int} (h : lok L k v li) : lok L (k + 1) v li := by
  rcases h with z | ⟨i, i1, i2, i3⟩
  · exact Or.inl z
  · exact Or.inr ⟨i, by omega, i2, i3⟩
def St.wlk (A : St) (L : List Int) : Int := (A.wks L (A.lgm L L.length) (A.lgx L L.length) L.length).2.1
section WALK
variable {g : KG} {h : KH} {l r : Int} {A : St} {L : List Int} {d : Nat} {Q : Option KV → KG → KH → Prop}
/-- the class measures -/
theorem S5 (C1 : CK g h) (S : SR g h 6 l r A) (hl : l = 7 ∨ l = 39) (hr : r = 20 ∨ r = 52) (O : A.Ok) (hL : AtL h 33 L) (hm : ∀ x ∈ L, ins A x) (h16 : L.length ≤ 16) (hQ : ∀ h2 : KH, (∀ j : Nat, j < L.length → h2 34 j = A.lgm L L.length j) → (∀ c, c ≠ 34 → h2 c = h c) → Q (some (xI (A.lgx L L.length))) g h2) : Cl (d + 4) 5 [xR 32, xI (L.length : Int)] g h Q := by
  have mem : ∀ j, j < L.length → ins A (L.getD j 0) := fun j hj => hm _ (getD_mem hj)
  have outer : ∀ m n : Nat, n + m = L.length → ∀ (h1 : KH) (x : KV), (∀ j : Nat, L.length - n ≤ j → j < L.length → h1 34 j = A.lgm L n j) → (∀ c, c ≠ 34 → h1 c = h c) → Rn (d + 3) 5 6 [xR 32, xI (L.length : Int), xI (A.lgx L n), xI ((m : Int) - 1), x] [] g h1 Q := by
    intro m
    induction m with
    | zero =>
      intro n hn h1 x q1 q2
      have hn : n = L.length := by omega
      rw [B5_6, if_pos (by omega), hn]
      rw [hn] at q1
      exact hQ h1 (fun j hj => q1 j (by omega) hj) q2
    | succ m om =>
      intro n hn h1 x q1 q2
      have ei : L.length - (n + 1) = m := by omega
      have lx := lgx_r (A := A) (L := L) n
      have lr := lgm_r (A := A) (L := L) n
      have e0 : (((m + 1 : Nat) : Int) - 1) = (m : Int) := by omega
      have inner : ∀ k n1 : Nat, n1 + k = n → ∀ h3 : KH, (∀ j : Nat, m + 1 ≤ j → j < L.length → h3 34 j = A.lgm L n j) → h3 34 (m : Int) = A.lgj L (A.lgm L n) m n1 → (∀ c, c ≠ 34 → h3 c = h c) → Rn (d + 3) 5 22 [xR 32, xI (L.length : Int), xI (A.lgx L n), xI (m : Int), xI ((m + 1 + n1 : Nat) : Int)] [] g h3 Q := by
        intro k
        induction k with
        | zero =>
          intro n1 hn1 h3 r1 r2 r3
          have hn1 : n1 = n := by omega
          rw [hn1] at r2
          have lm : A.lgm L (n + 1) (L.length - (n + 1) : Nat) = A.lgj L (A.lgm L n) m n := by
            show kset (A.lgm L n) (L.length - (n + 1) : Nat) (A.lgj L (A.lgm L n) (L.length - (n + 1)) n) (L.length - (n + 1) : Nat) = _
            unfold kset
            rw [if_pos rfl, ei]
          have ex : (if A.lgx L n < A.lgj L (A.lgm L n) m n then A.lgj L (A.lgm L n) m n else A.lgx L n) = A.lgx L (n + 1) := by
            rw [St.lgx, lm]
          rw [B5_22, if_pos (by omega), ga C1.k32, r3 32 (by decide), C1.p322, ga ⟨C1.k34, by omega, by rw [C1.l34]; omega⟩, r2, ex, w32_id (by omega) (by omega)]
          refine om (n + 1) (by omega) h3 _ (fun j j0 j1 => ?_) r3
          rw [ei] at j0
          unfold St.lgm kset
          rw [ei]
          by_cases hj : j = m
          · rw [if_pos (by rw [hj]), hj]; exact r2
          · rw [if_neg (by omega)]; exact r1 j (by omega) j1
        | succ k im =>
          intro n1 hn1 h3 r1 r2 r3
          have S3 : SR g h3 6 l r A := S.now hl hr (fun c _ _ _ => r3 c (by omega))
          have rj := r1 (m + 1 + n1) (by omega) (by omega)
          have jr := lgj_r (A := A) (L := L) (i := m) lr (by omega) n1
          have jr2 := lr (m + 1 + n1 : Nat)
          have e1 : (((m + 1 + n1 : Nat) : Int) + 1) = ((m + 1 + (n1 + 1) : Nat) : Int) := by omega
          have v1 : h3 33 ((m + 1 + n1 : Nat) : Int) = L.getD (m + 1 + n1) 0 := by rw [r3 33 (by decide)]; exact hL _ (by omega)
          have v2 : h3 33 (m : Int) = L.getD m 0 := by rw [r3 33 (by decide)]; exact hL _ (by omega)
          have skip : ¬ (A.lgj L (A.lgm L n) m n1 ≤ A.lgm L n (m + 1 + n1 : Nat) ∧ A.fit (L.getD (m + 1 + n1) 0) (L.getD m 0)) → Rn (d + 3) 5 82 [xR 32, xI (L.length : Int), xI (A.lgx L n), xI (m : Int), xI ((m + 1 + n1 : Nat) : Int)] [] g h3 Q := by
            intro z
            rw [B5_82, w32_id (by omega) (by omega), e1]
            refine im (n1 + 1) (by omega) h3 r1 ?_ r3
            rw [St.lgj, if_neg z]; exact r2
          rw [B5_22, if_neg (by omega), ga C1.k32, r3 32 (by decide), C1.p322, ga ⟨C1.k34, by omega, by rw [C1.l34]; omega⟩, ga C1.k32, ga ⟨C1.k34, by omega, by rw [C1.l34]; omega⟩, rj, r2]
          by_cases hc : A.lgj L (A.lgm L n) m n1 ≤ A.lgm L n (m + 1 + n1 : Nat)
          · rw [if_neg (by omega), ga C1.k32, ga C1.k32, C1.p321, ga ⟨C1.k33, by omega, by rw [C1.l33]; omega⟩, ga C1.k32, ga ⟨C1.k33, by omega, by rw [C1.l33]; omega⟩, C1.p320, ga S.k0, v1, v2]
            refine S59 S3 O (mem _ (by omega)) (mem _ (by omega)) ?_
            rw [o1, List.cons_append, List.nil_append, B5_64]
            by_cases hf : A.fit (L.getD (m + 1 + n1) 0) (L.getD m 0)
            · have hf2 : A.tt (L.getD m 0) + A.mins (A.dr (L.getD m 0)) (A.dr (L.getD (m + 1 + n1) 0)) ≤ A.fr (L.getD (m + 1 + n1) 0) := hf
              rw [bzt hf2, if_neg (by decide), ga C1.k32, ga C1.k32, r3 32 (by decide), C1.p322, ga ⟨C1.k34, by omega, by rw [C1.l34]; omega⟩, ga ⟨C1.k34, by decide, by omega, by rw [C1.l34]; omega⟩, rj, B5_82, w32_id (by omega) (by omega), w32_id (by omega) (by omega), e1]
              refine im (n1 + 1) (by omega) _ (fun j j0 j1 => by rw [hset_i _ _ (by omega)]; exact r1 j j0 j1) ?_ (fun c hc => by rw [hset_a _ _ _ hc, r3 c hc])
              rw [hset_e, St.lgj, if_pos ⟨hc, hf⟩]
            · have hf2 : ¬ A.tt (L.getD m 0) + A.mins (A.dr (L.getD m 0)) (A.dr (L.getD (m + 1 + n1) 0)) ≤ A.fr (L.getD (m + 1 + n1) 0) := hf
              rw [bzf hf2, if_pos rfl]
              exact skip (fun z => hf z.2)
          · rw [if_pos (by omega)]
            exact skip (fun z => hc z.1)
      rw [B5_6, e0, if_neg (by omega), ga C1.k32, q2 32 (by decide), C1.p322, ga ⟨C1.k34, by decide, by omega, by rw [C1.l34]; omega⟩, w32_id (by omega) (by omega)]
      refine inner n 0 (by omega) _ (fun j j0 j1 => by rw [hset_i _ _ (by omega)]; exact q1 j (by omega) j1) (by rw [hset_e]; rfl) (fun c hc => by rw [hset_a _ _ _ hc, q2 c hc])
  have := outer L.length 0 (by omega) h xU (fun j j0 j1 => by omega) (fun _ _ => rfl)
  rw [E5, w32_id (by omega) (by omega)]
  exact this
/-- the class's walk -/
theorem S4 (C1 : CK g h) (S : SR g h 6 l r A) (hl : l = 7 ∨ l = 39) (hr : r = 20 ∨ r = 52) (O : A.Ok) {a : Int} (hQ : ∀ h2 : KH, (∀ c, c ≠ 33 → c ≠ 34 → h2 c = h c) → Q (some (xI (A.wlk (A.ordl a A.ns.toNat)))) g h2) : Cl (d + 5) 4 [xR 32, xI a] g h Q := by
  have hns := O.ns
  rw [E4, ga C1.k32]
  refine S3 C1 S hl hr O (fun h1 a1 f1 => ?_)
  have len := ordl_len A a A.ns.toNat
  have hm : ∀ x ∈ A.ordl a A.ns.toNat, ins A x := fun x hx => by
    have z := (ordl_mem A a x _).mp hx
    exact ⟨z.1, by omega⟩
  have mem : ∀ j, j < (A.ordl a A.ns.toNat).length → ins A ((A.ordl a A.ns.toNat).getD j 0) := fun j hj => hm _ (getD_mem hj)
  have C11 : CK g h1 := C1.keepg (f1 1 (by decide)) (by rw [f1 2 (by decide)]) (by rw [f1 4 (by decide)]) (by rw [f1 5 (by decide)]) (f1 31 (by decide)) (f1 32 (by decide)) (f1 36 (by decide)) (fun t t0 t1 => by rw [f1 _ (by omega)])
  have S1 : SR g h1 6 l r A := S.now hl hr (fun c _ _ _ => f1 c (by omega))
  rw [o1, List.cons_append, List.nil_append, B4_5, ga C1.k32]
  generalize hLd : A.ordl a A.ns.toNat = L at *
  refine S5 C11 S1 hl hr O a1 hm (by omega) (fun h2 a2 f2 => ?_)
  have hlr := lgm_r (A := A) (L := L) L.length
  have hxr := lgx_r (A := A) (L := L) L.length
  have g2 : ∀ c, c ≠ 33 → c ≠ 34 → h2 c = h c := fun c c1 c2 => by rw [f2 c c2, f1 c c1]
  have S2 : SR g h2 6 l r A := S.now hl hr (fun c _ _ _ => g2 c (by omega) (by omega))
  have y32 : h2 32 = h 32 := g2 32 (by decide) (by decide)
  have b1 : ∀ j : Nat, j < L.length → h2 33 j = L.getD j 0 := fun j hj => by rw [f2 33 (by decide)]; exact a1 j hj
  have hwr := wks_r (A := A) (L := L) (lg := A.lgm L L.length) (w := A.lgx L L.length) (fun j => (hlr j).1) hxr.1
  rw [o1, List.cons_append, List.nil_append, B4_11]
  have loop : ∀ n k : Nat, k + n = L.length → Rn (d + 4) 4 21 [xR 32, xI a, xI (L.length : Int), xI (A.wks L (A.lgm L L.length) (A.lgx L L.length) k).1, xI (A.wks L (A.lgm L L.length) (A.lgx L L.length) k).2.1, xI (A.wks L (A.lgm L L.length) (A.lgx L L.length) k).2.2, xI (k : Int)] [] g h2 Q := by
    intro n
    induction n with
    | zero =>
      intro k hk
      have hk : k = L.length := by omega
      rw [B4_21, if_pos (by omega), hk]
      exact hQ h2 g2
    | succ n ih =>
      intro k hk
      have e1 : ((k : Int) + 1) = ((k + 1 : Nat) : Int) := by omega
      have wr := hwr k
      have wl : (A.wks L (A.lgm L L.length) (A.lgx L L.length) k).2.2 = -1 ∨ ins A (A.wks L (A.lgm L L.length) (A.lgx L L.length) k).2.2 := by
        rcases wks_l (A := A) (L := L) (lg := A.lgm L L.length) (w := A.lgx L L.length) k (by omega) with z | ⟨i, i1, i2⟩
        · exact Or.inl z
        · rw [i2]; exact Or.inr (mem i (Nat.lt_trans i1 (by omega)))
      have mk := mem k (by omega)
      have mk0 := mk.1
      have mk1 := mk.2
      have nxt := ih (k + 1) (by omega)
      rw [wks_s] at nxt
      generalize A.wks L (A.lgm L L.length) (A.lgx L L.length) k = s at *
      have skip : ¬ (A.lgm L L.length k = s.1 ∧ (s.2.2 = -1 ∨ A.fit (L.getD k 0) s.2.2)) → Rn (d + 4) 4 84 [xR 32, xI a, xI (L.length : Int), xI s.1, xI s.2.1, xI s.2.2, xI (k : Int)] [] g h2 Q := by
        intro z
        rw [if_neg z] at nxt
        rw [B4_84, w32_id (by omega) (by omega), e1]
        exact nxt
      have take : (A.lgm L L.length k = s.1 ∧ (s.2.2 = -1 ∨ A.fit (L.getD k 0) s.2.2)) → Rn (d + 4) 4 63 [xR 32, xI a, xI (L.length : Int), xI s.1, xI s.2.1, xI s.2.2, xI (k : Int)] [] g h2 Q := by
        intro z
        rw [if_pos z] at nxt
        rw [B4_63, ga C1.k32, y32, C1.p321, ga ⟨C1.k33, by omega, by rw [C1.l33]; omega⟩, b1 k (by omega), ga ⟨mk0, by omega⟩, B4_84, w32_id (by omega) (by omega), w32_id (by omega) (by omega), e1]
        exact nxt
      rw [B4_21, if_neg (by omega), ga C1.k32, y32, C1.p322, ga ⟨C1.k34, by omega, by rw [C1.l34]; omega⟩, a2 k (by omega)]
      by_cases h1 : A.lgm L L.length k = s.1
      · rw [if_neg (by simp [h1])]
        by_cases h2 : s.2.2 = -1
        · rw [if_pos h2]
          exact take ⟨h1, Or.inl h2⟩
        · have hs : ins A s.2.2 := by
            rcases wl with z | z
            · exact absurd z h2
            · exact z
          rw [if_neg h2, ga C1.k32, ga C1.k32, C1.p321, ga ⟨C1.k33, by omega, by rw [C1.l33]; omega⟩, C1.p320, ga S.k0, b1 k (by omega)]
          refine S59 S2 O mk hs ?_
          rw [o1, List.cons_append, List.nil_append, B4_60]
          by_cases hf : A.fit (L.getD k 0) s.2.2
          · have hf2 : A.tt s.2.2 + A.mins (A.dr s.2.2) (A.dr (L.getD k 0)) ≤ A.fr (L.getD k 0) := hf
            rw [bzt hf2, if_neg (by decide)]
            exact take ⟨h1, Or.inr hf⟩
          · have hf2 : ¬ A.tt s.2.2 + A.mins (A.dr s.2.2) (A.dr (L.getD k 0)) ≤ A.fr (L.getD k 0) := hf
            rw [bzf hf2, if_pos rfl]
            exact skip (fun z => by rcases z.2 with z | z; exact h2 z; exact hf z)
      · rw [if_pos h1]
        exact skip (fun z => h1 z.1)
  exact loop L.length 0 (by omega)
end WALK
def Wd.walked (W : Wd) (a : Int) : Int × Int := if 0 ≤ a ∧ a ≤ 3 then (0, W.cur.wlk (W.cur.ordl a W.cur.ns.toNat)) else (1, -1)
theorem C112 {W : Wd} {a : Int} : Ci 112 [xR 0, xI a] 6 W (W.walked a) := by
  intro g h C d Q hQ
  have C0 := C
  obtain ⟨l, r, l2, r2, C1, C2, C3, C4, C5, C6, C7⟩ := C
  unfold Wd.walked at hQ
  rw [E112, S145]
  by_cases ha : 0 ≤ a ∧ a ≤ 3
  · rw [if_pos ha] at hQ
    have hl : l = 7 ∨ l = 39 := by have := C7.l; omega
    have hr : r = 20 ∨ r = 52 := by have := C7.r; omega
    rw [bzt ha, o1, List.cons_append, List.nil_append, B112_4, if_neg (by decide), ga C3.k0, C3.p6, ga C1.k32]
    refine S4 C1 C7.S hl hr C7.O (fun h2 f2 => ?_)
    rw [o1, List.cons_append, List.nil_append, B112_16, ga C3.k0]
    simp only [S133 (k := C3.k0), S134 (k := C3.k0), S135 (k := C3.k0), S136 (k := C3.k0), o1, o0, List.cons_append, List.nil_append, B112_19, B112_27]
    exact hQ _ (C0.st (fun c c0 c1 hq => by unfold qc at hq; rw [hset_a _ _ _ (by omega), f2 c (by omega) (by omega)]) (fun j hj => by rw [hset_i _ _ hj, f2 0 (by decide) (by decide)]) (by rw [hset_a _ _ _ (by decide), f2 35 (by decide) (by decide)]) (hset_e _ _ _ _)) (fun c hc => by rw [hset_a _ _ _ (by omega), f2 c (by omega) (by omega)])
  · rw [if_neg ha] at hQ
    rw [bzf ha, o1, List.cons_append, List.nil_append, B112_4, if_pos rfl, ga C3.k0]
    simp only [S133 (k := C3.k0), S134 (k := C3.k0), S135 (k := C3.k0), S136 (k := C3.k0), o1, o0, List.cons_append, List.nil_append, B112_27]
    exact cst C0 hQ
theorem C227 {W : Wd} {a : Int} : Mi 227 [xR 138, xI a] 5 W (W.walked a) := by
  intro g h C O d Q hQ
  have K := C.1
  have M := C.2.2.cur
  unfold Wd.walked at hQ
  rw [E227, S202]
  by_cases ha : 0 ≤ a ∧ a ≤ 3
  · rw [if_pos ha] at hQ
    have hns := O.ns
    rw [bzt ha, o1, List.cons_append, List.nil_append, B227_5, if_pos (by decide), ga K.k0]
    refine S225 K M O (fun h1 a1 n1 f1 t1 => ?_)
    have len := ordl_len W.cur a W.cur.ns.toNat
    have hm : ∀ x ∈ W.cur.ordl a W.cur.ns.toNat, ins W.cur x := fun x hx => by
      have z := (ordl_mem W.cur a x _).mp hx
      exact ⟨z.1, by omega⟩
    have mem : ∀ j, j < (W.cur.ordl a W.cur.ns.toNat).length → ins W.cur ((W.cur.ordl a W.cur.ns.toNat).getD j 0) := fun j hj => hm _ (getD_mem hj)
    generalize hLd : W.cur.ordl a W.cur.ns.toNat = L at *
    have K1 : MK g h1 := K.keep (fun j hj => t1 j (by omega))
    have fin : ∀ h2 : KH, (∀ c, c ≠ 138 → c ≠ 147 → c ≠ 148 → h2 c = h c) → (∀ j, j ≠ 30 → h2 138 j = h 138 j) → Q (some (xI (W.cur.wlk L))) g (hset h2 138 1 0) := fun h2 f2 t2 =>
      hQ _ (C.st (fun c c0 c1 c2 => by rw [hset_a _ _ _ (by omega), f2 c (by omega) (by omega) (by omega)]) (fun j hj => by rw [hset_i _ _ hj.1, t2 j (by omega)]) (hset_e _ _ _ _)) (fun c hc => by rw [hset_a _ _ _ (by omega), f2 c (by omega) (by omega) (by omega)])
    have outer : ∀ m n : Nat, n + m = L.length → ∀ (h3 : KH) (x : KV), (∀ j : Nat, L.length - n ≤ j → j < L.length → h3 148 j = W.cur.lgm L n j) → (∀ c, c ≠ 148 → h3 c = h1 c) → Rn (d + 4) 227 28 [xR 138, xI a, xI (W.cur.lgx L n), xI ((m : Int) - 1), x, xU] [] g h3 Q := by
      intro m
      induction m with
      | zero =>
        intro n hn h3 x q1 q2
        have hn : n = L.length := by omega
        rw [hn] at q1
        have hlr := lgm_r (A := W.cur) (L := L) L.length
        have hxr := lgx_r (A := W.cur) (L := L) L.length
        have hwr := wks_r (A := W.cur) (L := L) (lg := W.cur.lgm L L.length) (w := W.cur.lgx L L.length) (fun j => (hlr j).1) hxr.1
        rw [B227_28, if_pos (by omega), hn]
        have y138 : h3 138 = h1 138 := q2 138 (by decide)
        have K3 : MK g h3 := K1.keep (fun j hj => by rw [y138])
        have M3 : MS (h3 139) W.cur := by rw [q2 139 (by decide), f1 139 (by decide) (by decide)]; exact M
        have b1 : ∀ j : Nat, j < L.length → h3 147 j = L.getD j 0 := fun j hj => by rw [q2 147 (by decide)]; exact a1 j hj
        have loop : ∀ n k : Nat, k + n = L.length → ∀ li : Int, lok L k (W.cur.wks L (W.cur.lgm L L.length) (W.cur.lgx L L.length) k).2.2 li → Rn (d + 4) 227 128 [xR 138, xI a, xI (W.cur.wks L (W.cur.lgm L L.length) (W.cur.lgx L L.length) k).1, xI (W.cur.wks L (W.cur.lgm L L.length) (W.cur.lgx L L.length) k).2.1, xI li, xI (k : Int)] [] g h3 Q := by
          intro n
          have out : ∀ k : Nat, ∀ li : Int, W.cur.wks L (W.cur.lgm L L.length) (W.cur.lgx L L.length) L.length = W.cur.wks L (W.cur.lgm L L.length) (W.cur.lgx L L.length) k → Rn (d + 4) 227 207 [xR 138, xI a, xI (W.cur.wks L (W.cur.lgm L L.length) (W.cur.lgx L L.length) k).1, xI (W.cur.wks L (W.cur.lgm L L.length) (W.cur.lgx L L.length) k).2.1, xI li, xI (k : Int)] [] g h3 Q := by
            intro k li e
            rw [B227_207, ga K.k0]
            simp only [S160 (k := K.k0), S161 (k := K.k0), S162 (k := K.k0), o1, o0, List.cons_append, List.nil_append, B227_212]
            rw [← e]
            exact fin h3 (fun c c1 c2 c3 => by rw [q2 c c3, f1 c c1 c2]) (fun j hj => by rw [y138, t1 j hj])
          induction n with
          | zero =>
            intro k hk li hli
            have hk : k = L.length := by omega
            rw [B227_128, ga K.k0, y138, n1, if_pos (by omega)]
            exact out k li (by rw [hk])
          | succ n ih =>
            intro k hk li hli
            have e1 : ((k : Int) + 1) = ((k + 1 : Nat) : Int) := by omega
            have wr := hwr k
            have mk := mem k (by omega)
            have mk0 := mk.1
            have mk1 := mk.2
            have nxt := ih (k + 1) (by omega)
            have ot := out k li
            have we := wks_end (A := W.cur) (L := L) (lg := W.cur.lgm L L.length) (w := W.cur.lgx L L.length) (fun j => (hlr j).1) (k := k)
            rw [wks_s] at nxt
            rw [B227_128, ga K.k0, y138, n1, if_neg (by omega)]
            by_cases h0 : (W.cur.wks L (W.cur.lgm L L.length) (W.cur.lgx L L.length) k).1 ≤ 0
            · rw [if_pos h0]
              refine ot ?_
              have e := we h0 (L.length - k)
              rw [show k + (L.length - k) = L.length by omega] at e
              exact e
            · rw [if_neg h0]
              generalize W.cur.wks L (W.cur.lgm L L.length) (W.cur.lgx L L.length) k = s at *
              have skip : ¬ (W.cur.lgm L L.length k = s.1 ∧ (s.2.2 = -1 ∨ W.cur.fit (L.getD k 0) s.2.2)) → Rn (d + 4) 227 201 [xR 138, xI a, xI s.1, xI s.2.1, xI li, xI (k : Int)] [] g h3 Q := by
                intro z
                rw [if_neg z] at nxt
                rw [B227_201, w32_id (by omega) (by omega), e1]
                exact nxt li (lok_s hli)
              have take : (W.cur.lgm L L.length k = s.1 ∧ (s.2.2 = -1 ∨ W.cur.fit (L.getD k 0) s.2.2)) → Rn (d + 4) 227 182 [xR 138, xI a, xI s.1, xI s.2.1, xI li, xI (k : Int)] [] g h3 Q := by
                intro z
                rw [if_pos z] at nxt
                rw [B227_182, ga K.k0, K3.p28, ga ⟨K.k147, by omega, by rw [K.l147]; omega⟩, b1 k (by omega), ga ⟨mk0, by omega⟩, B227_201, w32_id (by omega) (by omega), w32_id (by omega) (by omega), e1]
                exact nxt k (Or.inr ⟨k, Nat.lt_succ_self k, rfl, rfl⟩)
              rw [← y138, ga K.k0, K3.p29, ga ⟨K.k148, by omega, by rw [K.l148]; omega⟩, q1 k (by omega) (by omega)]
              by_cases h1 : W.cur.lgm L L.length k = s.1
              · rw [if_neg (by simp [h1])]
                rcases hli with ⟨z1, z2⟩ | ⟨i, i1, i2, i3⟩
                · rw [if_pos z2]
                  exact take ⟨h1, Or.inl z1⟩
                · have hs := mem i (by omega)
                  have hne : ¬ s.2.2 = -1 := by rw [i3]; have := hs.1; omega
                  rw [if_neg (by omega), ga K.k0, K3.p28, ga ⟨K.k147, by omega, by rw [K.l147]; omega⟩, ga K.k0, ga ⟨K.k147, by omega, by rw [K.l147]; omega⟩, ga K.k0, b1 k (by omega), i2, b1 i (by omega)]
                  refine S226 K3 M3 O mk hs ?_
                  rw [o1, List.cons_append, List.nil_append, B227_176]
                  rw [i2] at skip take
                  by_cases hf : W.cur.fit (L.getD k 0) (L.getD i 0)
                  · have hf2 : W.cur.tt (L.getD i 0) + W.cur.mins (W.cur.dr (L.getD i 0)) (W.cur.dr (L.getD k 0)) ≤ W.cur.fr (L.getD k 0) := hf
                    rw [bzt hf2, if_pos (by decide)]
                    exact take ⟨h1, Or.inr (by rw [i3]; exact hf)⟩
                  · have hf2 : ¬ W.cur.tt (L.getD i 0) + W.cur.mins (W.cur.dr (L.getD i 0)) (W.cur.dr (L.getD k 0)) ≤ W.cur.fr (L.getD k 0) := hf
                    rw [bzf hf2, if_neg (by decide)]
                    refine skip (fun z => ?_)
                    rcases z.2 with z | z
                    · exact hne z
                    · rw [i3] at z; exact hf z
              · rw [if_pos h1]
                exact skip (fun z => h1 z.1)
        exact loop L.length 0 (by omega) (-1) (Or.inl ⟨rfl, rfl⟩)
      | succ m om =>
        intro n hn h3 x q1 q2
        have ei : L.length - (n + 1) = m := by omega
        have lx := lgx_r (A := W.cur) (L := L) n
        have lr := lgm_r (A := W.cur) (L := L) n
        have e0 : (((m + 1 : Nat) : Int) - 1) = (m : Int) := by omega
        have inner : ∀ k n1 : Nat, n1 + k = n → ∀ h4 : KH, (∀ j : Nat, m + 1 ≤ j → j < L.length → h4 148 j = W.cur.lgm L n j) → h4 148 (m : Int) = W.cur.lgj L (W.cur.lgm L n) m n1 → (∀ c, c ≠ 148 → h4 c = h1 c) → Rn (d + 4) 227 44 [xR 138, xI a, xI (W.cur.lgx L n), xI (m : Int), xI ((m + 1 + n1 : Nat) : Int), xU] [] g h4 Q := by
          intro k
          induction k with
          | zero =>
            intro k1 hk1 h4 r1 r2 r3
            have hk1 : k1 = n := by omega
            rw [hk1] at r2
            have y138 : h4 138 = h1 138 := r3 138 (by decide)
            have K4 : MK g h4 := K1.keep (fun j hj => by rw [y138])
            have lm : W.cur.lgm L (n + 1) (L.length - (n + 1) : Nat) = W.cur.lgj L (W.cur.lgm L n) m n := by
              show kset (W.cur.lgm L n) (L.length - (n + 1) : Nat) (W.cur.lgj L (W.cur.lgm L n) (L.length - (n + 1)) n) (L.length - (n + 1) : Nat) = _
              unfold kset
              rw [if_pos rfl, ei]
            have ex : (if W.cur.lgx L n < W.cur.lgj L (W.cur.lgm L n) m n then W.cur.lgj L (W.cur.lgm L n) m n else W.cur.lgx L n) = W.cur.lgx L (n + 1) := by
              rw [St.lgx, lm]
            rw [B227_44, ga K.k0, y138, n1, if_pos (by omega), ← y138, ga K.k0, K4.p29, ga ⟨K.k148, by omega, by rw [K.l148]; omega⟩, r2, ex, w32_id (by omega) (by omega)]
            refine om (n + 1) (by omega) h4 _ (fun j j0 j1 => ?_) r3
            rw [ei] at j0
            unfold St.lgm kset
            rw [ei]
            by_cases hj : j = m
            · rw [if_pos (by rw [hj]), hj]; exact r2
            · rw [if_neg (by omega)]; exact r1 j (by omega) j1
          | succ k im =>
            intro k1 hk1 h4 r1 r2 r3
            have y138 : h4 138 = h1 138 := r3 138 (by decide)
            have K4 : MK g h4 := K1.keep (fun j hj => by rw [y138])
            have M4 : MS (h4 139) W.cur := by rw [r3 139 (by decide), f1 139 (by decide) (by decide)]; exact M
            have rj := r1 (m + 1 + k1) (by omega) (by omega)
            have jr := lgj_r (A := W.cur) (L := L) (i := m) lr (by omega) k1
            have jr2 := lr (m + 1 + k1 : Nat)
            have e1 : (((m + 1 + k1 : Nat) : Int) + 1) = ((m + 1 + (k1 + 1) : Nat) : Int) := by omega
            have v1 : h4 147 ((m + 1 + k1 : Nat) : Int) = L.getD (m + 1 + k1) 0 := by rw [r3 147 (by decide)]; exact a1 _ (by omega)
            have v2 : h4 147 (m : Int) = L.getD m 0 := by rw [r3 147 (by decide)]; exact a1 _ (by omega)
            rw [B227_44, ga K.k0, y138, n1, if_neg (by omega), ← y138, ga K.k0, K4.p28, ga ⟨K.k147, by omega, by rw [K.l147]; omega⟩, ga K.k0, ga ⟨K.k147, by omega, by rw [K.l147]; omega⟩, ga K.k0, v1, v2]
            refine S226 K4 M4 O (mem _ (by omega)) (mem _ (by omega)) ?_
            rw [o1, List.cons_append, List.nil_append, B227_70]
            by_cases hf : W.cur.fit (L.getD (m + 1 + k1) 0) (L.getD m 0)
            · have hf2 : W.cur.tt (L.getD m 0) + W.cur.mins (W.cur.dr (L.getD m 0)) (W.cur.dr (L.getD (m + 1 + k1) 0)) ≤ W.cur.fr (L.getD (m + 1 + k1) 0) := hf
              rw [bzt hf2, if_neg (by decide), ga K.k0, ga K.k0, K4.p29, ga ⟨K.k148, by omega, by rw [K.l148]; omega⟩, ga K.k0, ga ⟨K.k148, by omega, by rw [K.l148]; omega⟩, ga ⟨K.k148, by decide, by omega, by rw [K.l148]; omega⟩, rj, r2, w32_id (by omega) (by omega), B227_97, w32_id (by omega) (by omega), e1]
              refine im (k1 + 1) (by omega) _ (fun j j0 j1 => by rw [hset_i _ _ (by omega)]; exact r1 j j0 j1) ?_ (fun c hc => by rw [hset_a _ _ _ hc, r3 c hc])
              rw [hset_e, St.lgj]
              by_cases hc : W.cur.lgj L (W.cur.lgm L n) m k1 ≤ W.cur.lgm L n (m + 1 + k1 : Nat)
              · rw [if_pos (by omega), if_pos ⟨hc, hf⟩]
              · rw [if_neg (by omega), if_neg (fun z => hc z.1)]
            · have hf2 : ¬ W.cur.tt (L.getD m 0) + W.cur.mins (W.cur.dr (L.getD m 0)) (W.cur.dr (L.getD (m + 1 + k1) 0)) ≤ W.cur.fr (L.getD (m + 1 + k1) 0) := hf
              rw [bzf hf2, if_pos rfl, B227_97, w32_id (by omega) (by omega), e1]
              refine im (k1 + 1) (by omega) h4 r1 ?_ r3
              rw [St.lgj, if_neg (fun z => hf z.2)]; exact r2
        have y138 : h3 138 = h1 138 := q2 138 (by decide)
        have K3 : MK g h3 := K1.keep (fun j hj => by rw [y138])
        rw [B227_28, e0, if_neg (by omega), ga K.k0, K3.p29, ga ⟨K.k148, by decide, by omega, by rw [K.l148]; omega⟩, w32_id (by omega) (by omega)]
        refine inner n 0 (by omega) _ (fun j j0 j1 => by rw [hset_i _ _ (by omega)]; exact q1 j (by omega) j1) (by rw [hset_e]; rfl) (fun c hc => by rw [hset_a _ _ _ hc, q2 c hc])
    rw [o0, List.nil_append, B227_19, ga K.k0, n1, w32_id (by omega) (by omega)]
    exact outer L.length 0 (by omega) h1 xU (fun j j0 j1 => by omega) (fun _ _ => rfl)
  · rw [if_neg ha] at hQ
    rw [bzf ha, o1, List.cons_append, List.nil_append, B227_5, if_neg (by decide), ga K.k0]
    simp only [S160 (k := K.k0), S161 (k := K.k0), S162 (k := K.k0), o1, o0, List.cons_append, List.nil_append, B227_13]
    exact mst C hQ
