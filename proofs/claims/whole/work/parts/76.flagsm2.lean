/-! flagged, on the model's side: the stack -/
def StkAt (h : KH) : List Bool → Prop
  | [] => True
  | b :: t => h 150 t.length = (b.toNat : Int) ∧ StkAt h t
theorem StkAt.keep {h h2 : KH} (n : Nat) : ∀ L : List Bool, L.length ≤ n → (∀ j : Nat, j < n → h2 150 j = h 150 j) → StkAt h L → StkAt h2 L := by
  intro L
  induction L with
  | nil => intro _ _ _; trivial
  | cons b t ih =>
    intro hl H hs
    rw [List.length_cons] at hl
    exact ⟨by rw [H _ (by omega)]; exact hs.1, ih (by omega) H hs.2⟩
theorem bn_r (b : Bool) : 0 ≤ (b.toNat : Int) ∧ (b.toNat : Int) ≤ 1 := by cases b <;> decide
theorem bn_and (x y : Bool) : and32 (y.toNat : Int) (x.toNat : Int) = ((y && x).toNat : Int) := by cases x <;> cases y <;> decide
theorem bn_or (x y : Bool) : or32 (y.toNat : Int) (x.toNat : Int) = ((y || x).toNat : Int) := by cases x <;> cases y <;> decide
section FLAGM
variable {g : KG} {h : KH} {A : St} {d : Nat} {Q : Option KV → KG → KH → Prop}
theorem S247 (K : MK g h) (M : MS (h 139) A) (O : A.Ok) {s u : Int} (hs : ins A s) (hu : 0 ≤ u ∧ u < A.nr) (hQ : ∀ h2 : KH, (∀ c, c ≠ 138 → c ≠ 147 → c ≠ 150 → h2 c = h c) → (∀ j, j ≠ 26 → j ≠ 27 → j ≠ 30 → h2 138 j = h 138 j) → Q (some (xI (bz (A.flg s (A.pa s) u = true)))) g h2) : Cl (d + 7) 247 [xR 138, xI u, xI s] g h Q := by
  have hn := O.nr
  have D := O.dp u hu.1 hu.2
  have R := O.rsp.2.2 u hu.1 (by omega)
  have R2 := O.rsp.2.2 (u + 1) (by omega) (by omega)
  have rm := O.rsm
  have ru := O.rs u hu.1 hu.2
  have e0 := M.rs u hu.1 (by omega)
  have e1 := M.rs (u + 1) (by omega) (by omega)
  have ga9 : ∀ j, 0 ≤ j → j < 4500 → gK g 139 = 20 ∧ 0 ≤ j ∧ j < gL g 139 := fun j j0 j1 => ⟨K.kat, j0, by rw [K.lat]; exact j1⟩
  have gs : ∀ j, 0 ≤ j → j < 64 → (gK g 150 = 22 ∨ gK g 150 = 23) ∧ 0 ≤ j ∧ j < gL g 150 := fun j j0 j1 => ⟨Or.inr K.k150, j0, by rw [K.l150]; exact j1⟩
  have lp : ∀ n k : Nat, A.rs u + (k + n : Nat) = A.rs (u + 1) → ∀ (h1 : KH) (x : KV), (∀ c, c ≠ 138 → c ≠ 147 → c ≠ 150 → h1 c = h c) → (∀ j, j ≠ 26 → j ≠ 27 → j ≠ 30 → h1 138 j = h 138 j) → StkAt h1 (A.evl s (A.pa s) (A.rs u) k) → Rn (d + 6) 247 14 [xR 138, xI u, xI s, xI ((A.evl s (A.pa s) (A.rs u) k).length : Int), xI (A.rs u + k), x] [] g h1 Q := by
    intro n
    induction n with
    | zero =>
      intro k hk h1 x q1 q2 q3
      have K1 : MK g h1 := K.keep (fun j hj => q2 j (by omega) (by omega) (by omega))
      have ek : (A.rs (u + 1) - A.rs u).toNat = k := by omega
      have len := evl_len O s (A.pa s) hu k (by omega)
      rw [show A.rs u + (k : Int) = A.rs (u + 1) by omega, D.2.1] at len
      unfold St.flg at hQ
      rw [ek] at hQ
      rw [B247_14, ga K.k0, K1.pat, w32_id (x := 458 + u) (by omega) (by omega), w32_id (by omega) (by omega), ga (ga9 _ (by omega) (by omega)), q1 139 (by decide) (by decide) (by decide), show 458 + u + 1 = 458 + (u + 1) by omega, e1, if_pos (by omega), ga K.k0, K1.p32, ga (gs 0 (by decide) (by decide))]
      generalize A.evl s (A.pa s) (A.rs u) k = L at *
      cases L with
      | nil => simp only [List.length_nil] at len; omega
      | cons b t =>
        cases t with
        | cons b2 t2 => simp only [List.length_cons] at len; omega
        | nil =>
          have v : h1 150 0 = (b.toNat : Int) := q3.1
          have br := bn_r b
          rw [v, ga br]
          have hQ := hQ h1 q1 q2
          cases b
          · rw [bzf (show ¬ [false].headD false = true by decide)] at hQ; exact hQ
          · rw [bzt (show [true].headD false = true from rfl)] at hQ; exact hQ
    | succ n ih =>
      intro k hk h1 x q1 q2 q3
      have K1 : MK g h1 := K.keep (fun j hj => q2 j (by omega) (by omega) (by omega))
      have M1 : MS (h1 139) A := by rw [q1 139 (by decide) (by decide) (by decide)]; exact M
      have nx := ih (k + 1) (by omega)
      obtain ⟨d1, d2, d3, d4, d5⟩ := D.2.2 (A.rs u + k) (by omega) (by omega)
      have o := O.op (A.rs u + k) (by omega) (by omega)
      have len := evl_len O s (A.pa s) hu k (by omega)
      have eo := M1.op (A.rs u + k) (by omega) (by omega)
      have em := M1.nm (A.rs u + k) (by omega) (by omega)
      have en : A.rs u + ((k + 1 : Nat) : Int) = A.rs u + k + 1 := by omega
      have e1' : h1 139 (458 + (u + 1)) = A.rs (u + 1) := by rw [q1 139 (by decide) (by decide) (by decide)]; exact e1
      rw [St.evl, en] at nx
      rw [B247_14, ga K.k0, K1.pat, w32_id (x := 458 + u) (by omega) (by omega), w32_id (x := 458 + u + 1) (by omega) (by omega), ga (ga9 _ (by omega) (by omega)), show 458 + u + 1 = 458 + (u + 1) by omega, e1', if_neg (by omega), ga K.k0, w32_id (x := 2 * (A.rs u + (k : Int))) (by omega) (by omega), w32_id (x := 464 + 2 * (A.rs u + (k : Int))) (by omega) (by omega), ga (ga9 _ (by omega) (by omega)), eo]
      generalize A.evl s (A.pa s) (A.rs u) k = L at *
      by_cases h1' : 3 < A.op (A.rs u + k)
      · simp only [stq, if_pos h1'] at nx
        rw [if_neg (by omega), ga K.k0, ga K.k0, w32_id (by omega) (by omega), ga (ga9 _ (by omega) (by omega)), em, ga K.k0, K1.p32]
        refine S246 K1 M1 O hs (by omega) ⟨o.2.2.1, o.2.2.2⟩ (fun h2 f2 t2 => ?_)
        generalize A.say s (A.pa s) (A.op (A.rs u + k)) (A.nm (A.rs u + k)) = b at *
        rw [o1, List.cons_append, List.nil_append, B247_79, ga ⟨Or.inr ⟨K.k150, bn_r b⟩, by omega, by rw [K.l150]; omega⟩, B247_169, w32_id (by omega) (by omega), w32_id (by omega) (by omega), show (L.length : Int) + 1 = ((b :: L).length : Int) by rw [List.length_cons]; omega]
        refine nx _ _ (fun c c1 c2 c3 => by rw [hset_a _ _ _ c3, f2 c c1 c2, q1 c c1 c2 c3]) (fun j j1 j2 j3 => by rw [hset_a _ _ _ (by decide), t2 j j1 j2 j3, q2 j j1 j2 j3]) ⟨hset_e _ _ _ _, q3.keep L.length L (Nat.le_refl _) (fun j hj => by rw [hset_i _ _ (by omega), f2 150 (by decide) (by decide)])⟩
      · rw [if_pos (by omega)]
        by_cases h2 : A.op (A.rs u + k) = 3
        · have := d4 h2
          cases L with
          | nil => simp only [List.length_nil] at len; omega
          | cons b t =>
            simp only [stq, if_neg h1', if_pos h2] at nx
            have v : h1 150 t.length = (b.toNat : Int) := q3.1
            have el : ((b :: t).length : Int) - 1 = (t.length : Int) := by rw [List.length_cons]; omega
            rw [List.length_cons] at len
            have fin : ∀ w : Int, w = ((!b).toNat : Int) → Rn (d + 6) 247 115 [xR 138, xI u, xI s, xI ((b :: t).length : Int), xI (A.rs u + k), xI (A.op (A.rs u + k))] [xI w, xI (t.length : Int), xR 150] g h1 Q := by
              intro w hw
              rw [B247_115, hw, ga ⟨Or.inr ⟨K.k150, bn_r (!b)⟩, by omega, by rw [K.l150]; omega⟩, B247_169, w32_id (by omega) (by omega)]
              exact nx _ _ (fun c c1 c2 c3 => by rw [hset_a _ _ _ c3, q1 c c1 c2 c3]) (fun j j1 j2 j3 => by rw [hset_a _ _ _ (by decide), q2 j j1 j2 j3]) ⟨hset_e _ _ _ _, q3.2.keep t.length t (Nat.le_refl _) (fun j hj => by rw [hset_i _ _ (by omega)])⟩
            rw [if_neg (fun z => z h2), ga K.k0, ga K.k0, K1.p32, el, w32_id (by omega) (by omega), ga (gs _ (by omega) (by omega)), v]
            cases b
            · rw [if_neg (by decide)]; exact fin 1 rfl
            · rw [if_pos (by decide)]; exact fin 0 rfl
        · have := d5 (by omega)
          cases L with
          | nil => simp only [List.length_nil] at len; omega
          | cons b t =>
            cases t with
            | nil => simp only [List.length_cons, List.length_nil] at len; omega
            | cons c t =>
              have v1 : h1 150 ((c :: t).length : Nat) = (b.toNat : Int) := q3.1
              have v2 : h1 150 t.length = (c.toNat : Int) := q3.2.1
              have el : ((b :: c :: t).length : Int) + -1 = (((c :: t).length : Nat) : Int) := by rw [List.length_cons]; omega
              have el2 : (((c :: t).length : Nat) : Int) - 1 = (t.length : Int) := by rw [List.length_cons]; omega
              rw [List.length_cons, List.length_cons] at len
              have lc : ((c :: t).length : Int) = (t.length : Int) + 1 := by rw [List.length_cons]; omega
              simp only [stq, if_neg h1', if_neg h2] at nx
              have fin : ∀ z : Bool, (if A.op (A.rs u + k) = 2 then (c && b) else (c || b)) = z → Rn (d + 6) 247 168 [xR 138, xI u, xI s, xI ((c :: t).length : Nat), xI (A.rs u + k), xI (A.op (A.rs u + k))] [xI (z.toNat : Int), xI (t.length : Int), xR 150] g h1 Q := by
                intro z hz
                rw [hz] at nx
                rw [B247_168, ga ⟨Or.inr ⟨K.k150, bn_r z⟩, by omega, by rw [K.l150]; omega⟩, B247_169, w32_id (by omega) (by omega)]
                exact nx _ _ (fun c c1 c2 c3 => by rw [hset_a _ _ _ c3, q1 c c1 c2 c3]) (fun j j1 j2 j3 => by rw [hset_a _ _ _ (by decide), q2 j j1 j2 j3]) ⟨hset_e _ _ _ _, q3.2.2.keep t.length t (Nat.le_refl _) (fun j hj => by rw [hset_i _ _ (by omega)])⟩
              rw [if_pos h2, ga K.k0, K1.p32, el, w32_id (x := (((c :: t).length : Nat) : Int)) (by omega) (by omega), el2, w32_id (x := (t.length : Int)) (by omega) (by omega)]
              by_cases h3 : A.op (A.rs u + k) = 2
              · rw [if_neg (fun z => z h3), ga K.k0, ga (gs _ (by omega) (by omega)), ga K.k0, ga (gs _ (by omega) (by omega)), v1, v2, bn_and]
                exact fin (c && b) (if_pos h3)
              · rw [if_pos h3, ga K.k0, ga (gs _ (by omega) (by omega)), ga K.k0, ga (gs _ (by omega) (by omega)), v1, v2, bn_or]
                exact fin (c || b) (if_neg h3)
  have z := lp (A.rs (u + 1) - A.rs u).toNat 0 (by omega) h xU (fun _ _ _ _ => rfl) (fun _ _ _ _ => rfl) trivial
  rw [show A.rs u + ((0 : Nat) : Int) = A.rs u by omega] at z
  rw [E247, ga K.k0, K.pat, w32_id (by omega) (by omega), ga (ga9 _ (by omega) (by omega)), e0]
  exact z
theorem S249 (K : MK g h) (M : MS (h 139) A) (O : A.Ok) {u : Int} (hu : 0 ≤ u ∧ u < A.nr) (hQ : ∀ h2 : KH, (∀ c, c ≠ 138 → c ≠ 147 → c ≠ 150 → h2 c = h c) → (∀ j, j ≠ 26 → j ≠ 27 → j ≠ 30 → h2 138 j = h 138 j) → Q (some (xI (A.fset u A.ns.toNat))) g h2) : Cl (d + 8) 249 [xR 138, xI u] g h Q := by
  have h16 := O.ns
  have g2 : gK g 139 = 20 ∧ 0 ≤ (2 : Int) ∧ (2 : Int) < gL g 139 := ⟨K.kat, by decide, by rw [K.lat]; decide⟩
  have lp : ∀ n k : Nat, k + n = A.ns.toNat → ∀ h1 : KH, (∀ c, c ≠ 138 → c ≠ 147 → c ≠ 150 → h1 c = h c) → (∀ j, j ≠ 26 → j ≠ 27 → j ≠ 30 → h1 138 j = h 138 j) → Rn (d + 7) 249 4 [xR 138, xI u, xI (A.fset u k), xI (k : Int)] [] g h1 Q := by
    intro n
    induction n with
    | zero =>
      intro k hk h1 q1 q2
      have hk : k = A.ns.toNat := by omega
      rw [B249_4, ga K.k0, q2 0 (by decide) (by decide) (by decide), K.pat, ga g2, q1 139 (by decide) (by decide) (by decide), M.ns, if_pos (by omega), hk]
      exact hQ h1 q1 q2
    | succ n ih =>
      intro k hk h1 q1 q2
      have hi : ins A k := ⟨by omega, by omega⟩
      have e1 : ((k : Int) + 1) = ((k + 1 : Nat) : Int) := by omega
      have K1 : MK g h1 := K.keep (fun j hj => q2 j (by omega) (by omega) (by omega))
      have M1 : MS (h1 139) A := by rw [q1 139 (by decide) (by decide) (by decide)]; exact M
      have fr := fset_r A u k
      rw [B249_4, ga K.k0, K1.pat, ga g2, M1.ns, if_neg (by omega), ga K.k0]
      refine S247 K1 M1 O hi hu (fun h2 f2 t2 => ?_)
      have nx := ih (k + 1) (by omega) h2 (fun c c1 c2 c3 => by rw [f2 c c1 c2 c3, q1 c c1 c2 c3]) (fun j j1 j2 j3 => by rw [t2 j j1 j2 j3, q2 j j1 j2 j3])
      rw [St.fset] at nx
      rw [o1, List.cons_append, List.nil_append, B249_21]
      by_cases hf : A.flg k (A.pa k) u = true
      · rw [if_pos hf] at nx
        rw [bzt hf, if_neg (by decide), ga (by omega), B249_31, w32_id (by omega) (by omega), e1]
        exact nx
      · rw [if_neg hf] at nx
        rw [bzf hf, if_pos rfl, B249_31, or32_0 fr, w32_id (by omega) (by omega), e1]
        exact nx
  rw [E249]
  exact lp A.ns.toNat 0 (by omega) h (fun _ _ _ _ => rfl) (fun _ _ _ _ => rfl)
end FLAGM
theorem C250 {W : Wd} {u : Int} : Mi 250 [xR 138, xI u] 9 W (W.flagged u) := by
  intro g h C O d Q hQ
  have K := C.1
  have M := C.2.2.cur
  unfold Wd.flagged at hQ
  rw [E250, ga K.k0, S248 K M]
  by_cases hu : 0 ≤ u ∧ u < W.cur.nr
  · rw [if_pos hu] at hQ
    rw [bzt hu, o1, List.cons_append, List.nil_append, B250_5, if_neg (by decide), ga K.k0]
    refine S249 K M O hu (fun h2 f2 t2 => ?_)
    rw [o1, List.cons_append, List.nil_append, B250_14, ga K.k0]
    simp only [S160 (k := K.k0), S161 (k := K.k0), S162 (k := K.k0), o1, o0, List.cons_append, List.nil_append, B250_17, B250_25]
    exact hQ _ (C.st (fun c c0 c1 c2 => by rw [hset_a _ _ _ (by omega), f2 c (by omega) (by omega) (by omega)]) (fun j hj => by rw [hset_i _ _ hj.1, t2 j hj.2.1 hj.2.2.1 hj.2.2.2]) (hset_e _ _ _ _)) (fun c hc => by rw [hset_a _ _ _ (by omega), f2 c (by omega) (by omega) (by omega)])
  · rw [if_neg hu] at hQ
    rw [bzf hu, o1, List.cons_append, List.nil_append, B250_5, if_pos rfl, ga K.k0]
    simp only [S160 (k := K.k0), S161 (k := K.k0), S162 (k := K.k0), o1, o0, List.cons_append, List.nil_append, B250_25]
    exact mst C hQ
