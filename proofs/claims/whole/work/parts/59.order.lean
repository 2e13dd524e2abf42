/-! an asker's sheets in their order, as a list -/
/-- a sheet's place, from the end past all that begin later -/
def plc (fr : Int → Int) (s : Int) (L : List Int) : Nat → Nat
  | 0 => 0
  | k + 1 => if fr s < fr (L.getD k 0) then plc fr s L k else k + 1
def insl (fr : Int → Int) (s : Int) (L : List Int) : List Int := L.take (plc fr s L L.length) ++ s :: L.drop (plc fr s L L.length)
def St.ordl (A : St) (a : Int) : Nat → List Int
  | 0 => []
  | n + 1 => if A.ask n = a then insl A.fr n (A.ordl a n) else A.ordl a n
def AtL (h : KH) (a : Int) (L : List Int) : Prop := ∀ i : Nat, i < L.length → h a i = L.getD i 0
theorem plc_s (fr : Int → Int) (s : Int) (L : List Int) (k : Nat) : plc fr s L (k + 1) = if fr s < fr (L.getD k 0) then plc fr s L k else k + 1 := rfl
theorem plc_le (fr : Int → Int) (s : Int) (L : List Int) : ∀ k, plc fr s L k ≤ k := by
  intro k
  induction k with
  | zero => exact Nat.le_refl 0
  | succ k ih => unfold plc; split; exact Nat.le_succ_of_le ih; exact Nat.le_refl _
theorem plc_hi (fr : Int → Int) (s : Int) (L : List Int) : ∀ k j, plc fr s L k ≤ j → j < k → fr s < fr (L.getD j 0) := by
  intro k
  induction k with
  | zero => intro j _ h; omega
  | succ k ih =>
    intro j h1 h2
    unfold plc at h1
    split at h1
    · rename_i hc
      by_cases hj : j = k
      · rw [hj]; exact hc
      · exact ih j h1 (by omega)
    · omega
theorem plc_lo (fr : Int → Int) (s : Int) (L : List Int) : ∀ k j, plc fr s L k = j + 1 → ¬ fr s < fr (L.getD j 0) := by
  intro k
  induction k with
  | zero => intro j h; exact absurd h (by unfold plc; omega)
  | succ k ih =>
    intro j h
    unfold plc at h
    split at h
    · exact ih j h
    · rename_i hc
      have : j = k := by omega
      rw [this]; exact hc
theorem insl_len (fr : Int → Int) (s : Int) (L : List Int) : (insl fr s L).length = L.length + 1 := by
  unfold insl
  rw [List.length_append, List.length_cons, List.length_take, List.length_drop]
  have := plc_le fr s L L.length
  omega
theorem spl_get (s : Int) (L : List Int) (m i : Nat) (hm : m ≤ L.length) : (L.take m ++ s :: L.drop m).getD i 0 = if i < m then L.getD i 0 else if i = m then s else L.getD (i - 1) 0 := by
  simp only [List.getD_eq_getElem?_getD, List.getElem?_append, List.length_take, Nat.min_eq_left hm]
  by_cases h1 : i < m
  · rw [if_pos h1, if_pos h1, List.getElem?_take, if_pos h1]
  · rw [if_neg h1, if_neg h1]
    by_cases h2 : i = m
    · rw [if_pos h2, h2, Nat.sub_self, List.getElem?_cons_zero]; rfl
    · rw [if_neg h2]
      obtain ⟨j, hj⟩ : ∃ j, i - m = j + 1 := ⟨i - m - 1, by omega⟩
      rw [hj, List.getElem?_cons_succ, List.getElem?_drop]
      congr 2
      omega
theorem mem_insl (fr : Int → Int) (s x : Int) (L : List Int) : x ∈ insl fr s L ↔ x = s ∨ x ∈ L := by
  unfold insl
  rw [List.mem_append, List.mem_cons]
  constructor
  · rintro (h | h | h)
    · exact Or.inr (List.mem_of_mem_take h)
    · exact Or.inl h
    · exact Or.inr (List.mem_of_mem_drop h)
  · rintro (h | h)
    · exact Or.inr (Or.inl h)
    · rw [← List.take_append_drop (plc fr s L L.length) L, List.mem_append] at h
      rcases h with h | h
      · exact Or.inl h
      · exact Or.inr (Or.inr h)
theorem ordl_mem (A : St) (a x : Int) : ∀ n : Nat, x ∈ A.ordl a n ↔ 0 ≤ x ∧ x < n ∧ A.ask x = a := by
  intro n
  induction n with
  | zero => exact ⟨fun h => (by cases h), fun h => (by omega)⟩
  | succ n ih =>
    unfold St.ordl
    split
    · rename_i hc
      rw [mem_insl, ih]
      constructor
      · rintro (h | h)
        · rw [h]; exact ⟨by omega, by omega, hc⟩
        · exact ⟨h.1, by omega, h.2.2⟩
      · intro h
        by_cases hx : x = n
        · exact Or.inl hx
        · exact Or.inr ⟨h.1, by omega, h.2.2⟩
    · rename_i hc
      rw [ih]
      constructor
      · intro h; exact ⟨h.1, by omega, h.2.2⟩
      · intro h
        by_cases hx : x = n
        · rw [hx] at h; exact absurd h.2.2 hc
        · exact ⟨h.1, by omega, h.2.2⟩
theorem ordl_len (A : St) (a : Int) : ∀ n : Nat, (A.ordl a n).length ≤ n := by
  intro n
  induction n with
  | zero => exact Nat.le_refl 0
  | succ n ih =>
    unfold St.ordl
    split
    · rw [insl_len]; omega
    · omega
theorem getD_mem {L : List Int} {i : Nat} (h : i < L.length) : L.getD i 0 ∈ L := by
  rw [List.getD_eq_getElem?_getD, List.getElem?_eq_getElem h]
  exact List.getElem_mem h
/-- which of two sheets is ahead -/
abbrev St.ahd (A : St) (x y : Int) : Prop := A.fr x < A.fr y ∨ (A.fr x = A.fr y ∧ x < y)
theorem ahd_tr {A : St} {x y z : Int} (h1 : A.ahd x y) (h2 : A.ahd y z) : A.ahd x z := by
  unfold St.ahd at *
  omega
theorem insl_sorted {A : St} {s : Int} {L : List Int} (hs : L.Pairwise A.ahd) (hl : ∀ x ∈ L, x < s) : (insl A.fr s L).Pairwise A.ahd := by
  unfold insl
  have hk := plc_le A.fr s L L.length
  have hi := plc_hi A.fr s L L.length
  have lo := plc_lo A.fr s L L.length
  generalize plc A.fr s L L.length = k at hk hi lo
  have hd : ∀ y ∈ L.drop k, A.ahd s y := by
    intro y hy
    obtain ⟨i, hi1, hi2⟩ := List.getElem_of_mem hy
    rw [List.length_drop] at hi1
    have e := hi (k + i) (by omega) (by omega)
    rw [List.getElem_drop] at hi2
    rw [List.getD_eq_getElem?_getD, List.getElem?_eq_getElem (by omega)] at e
    have e2 : L[k + i] = y := hi2
    left
    simpa [e2] using e
  have ht : ∀ y ∈ L.take k, A.ahd y s := by
    intro y hy
    obtain ⟨i, hi1, hi2⟩ := List.getElem_of_mem hy
    rw [List.length_take] at hi1
    rw [List.getElem_take] at hi2
    obtain ⟨j, hj⟩ : ∃ j, k = j + 1 := ⟨k - 1, by omega⟩
    have e := lo j hj
    rw [List.getD_eq_getElem?_getD, List.getElem?_eq_getElem (by omega)] at e
    have e : ¬ A.fr s < A.fr L[j] := by simpa using e
    have yl : y < s := hl y (List.mem_of_mem_take hy)
    by_cases hij : i = j
    · subst hij
      rw [hi2] at e
      unfold St.ahd; omega
    · have p := List.pairwise_iff_getElem.mp hs i j (by omega) (by omega) (by omega)
      rw [hi2] at p
      unfold St.ahd at p ⊢; omega
  rw [List.pairwise_append]
  refine ⟨hs.take, List.pairwise_cons.mpr ⟨hd, hs.drop⟩, ?_⟩
  intro x hx y hy
  rcases List.mem_cons.mp hy with rfl | hy
  · exact ht x hx
  · exact ahd_tr (ht x hx) (hd y hy)
theorem ordl_sorted (A : St) (a : Int) : ∀ n : Nat, (A.ordl a n).Pairwise A.ahd := by
  intro n
  induction n with
  | zero => exact List.Pairwise.nil
  | succ n ih =>
    unfold St.ordl
    split
    · exact insl_sorted ih (fun x hx => ((ordl_mem A a x n).mp hx).2.1)
    · exact ih
theorem AtL.put {h : KH} {b s : Int} {L : List Int} {m : Nat} (hm : m ≤ L.length) (q1 : ∀ j : Nat, j < m → h b j = L.getD j 0) (q2 : ∀ j : Nat, m ≤ j → j < L.length → h b ((j : Int) + 1) = L.getD j 0) : AtL (hset h b m s) b (L.take m ++ s :: L.drop m) := by
  intro i hi
  rw [spl_get s L m i hm]
  have hi2 : i < L.length + 1 := by
    rw [List.length_append, List.length_cons, List.length_take, List.length_drop] at hi
    omega
  by_cases h1 : i < m
  · rw [if_pos h1, hset_i _ _ (by omega)]; exact q1 i h1
  · rw [if_neg h1]
    by_cases h2 : i = m
    · rw [if_pos h2, h2, hset_e]
    · rw [if_neg h2, hset_i _ _ (by omega)]
      have e : (i : Int) = ((i - 1 : Nat) : Int) + 1 := by omega
      rw [e]
      exact q2 (i - 1) (by omega) (by omega)
theorem SR.now {g : KG} {h h2 : KH} {l r : Int} {A : St} (S : SR g h 6 l r A) (hl : l = 7 ∨ l = 39) (hr : r = 20 ∨ r = 52) (e : ∀ a, 6 ≤ a → a < 55 → (a < 31 ∨ 38 < a) → h2 a = h a) : SR g h2 6 l r A := S.keep (e _ (by decide) (by decide) (by decide)) (fun a _ _ => e a (by omega) (by omega) (by omega)) (fun a _ _ => e a (by omega) (by omega) (by omega)) (fun a _ _ => e a (by omega) (by omega) (by omega))
theorem S3 {g : KG} {h : KH} {l r : Int} {A : St} (C1 : CK g h) (S : SR g h 6 l r A) (hl : l = 7 ∨ l = 39) (hr : r = 20 ∨ r = 52) (O : A.Ok) {a : Int} {d : Nat} {Q : Option KV → KG → KH → Prop} (hQ : ∀ h2 : KH, AtL h2 33 (A.ordl a A.ns.toNat) → (∀ c, c ≠ 33 → h2 c = h c) → Q (some (xI ((A.ordl a A.ns.toNat).length : Int))) g h2) : Cl (d + 2) 3 [xR 32, xI a] g h Q := by
  have hns := O.ns
  have outer : ∀ n k : Nat, k + n = A.ns.toNat → ∀ (h1 : KH) (x : KV), AtL h1 33 (A.ordl a k) → (∀ c, c ≠ 33 → h1 c = h c) → Rn (d + 1) 3 4 [xR 32, xI a, xI ((A.ordl a k).length : Int), xI (k : Int), x] [] g h1 Q := by
    intro n
    induction n with
    | zero =>
      intro k hk h1 x q1 q2
      have hk : k = A.ns.toNat := by omega
      rw [B3_4, ga C1.k32, q2 32 (by decide), C1.p320, ga S.k0, q2 6 (by decide), S.ns, if_pos (by omega), hk]
      rw [hk] at q1
      exact hQ h1 q1 q2
    | succ n ih =>
      intro k hk h1 x q1 q2
      have hi : ins A k := ⟨by omega, by omega⟩
      have S1 : SR g h1 6 l r A := S.now hl hr (fun c _ _ _ => q2 c (by omega))
      have e1 : ((k : Int) + 1) = ((k + 1 : Nat) : Int) := by omega
      have y32 : h1 32 = h 32 := q2 32 (by decide)
      rw [B3_4, ga C1.k32, y32, C1.p320, ga S.k0, S1.ns, if_neg (by omega), ga C1.k32, ga S.k0, S1.n3, ga ⟨S1.m23, by omega, by rw [S1.w23]; omega⟩, S1.v23 k hi]
      by_cases ha : A.ask k = a
      · rw [if_neg (by simp [ha])]
        have eo : A.ordl a (k + 1) = insl A.fr k (A.ordl a k) := by rw [St.ordl, if_pos ha]
        have hlen := ordl_len A a k
        have hmem : ∀ j, j < (A.ordl a k).length → ins A ((A.ordl a k).getD j 0) ∧ (A.ordl a k).getD j 0 < k := fun j hj => by
          have z := (ordl_mem A a _ k).mp (getD_mem hj)
          exact ⟨⟨z.1, by omega⟩, z.2.1⟩
        have inner : ∀ m : Nat, m ≤ (A.ordl a k).length → plc A.fr k (A.ordl a k) m = plc A.fr k (A.ordl a k) (A.ordl a k).length → ∀ h3 : KH, (∀ j : Nat, j < m → h3 33 j = (A.ordl a k).getD j 0) → (∀ j : Nat, m ≤ j → j < (A.ordl a k).length → h3 33 ((j : Int) + 1) = (A.ordl a k).getD j 0) → (∀ c, c ≠ 33 → h3 c = h c) → Rn (d + 1) 3 31 [xR 32, xI a, xI ((A.ordl a k).length : Int), xI (k : Int), xI (m : Int)] [] g h3 Q := by
          intro m
          have stop : ∀ m : Nat, m ≤ (A.ordl a k).length → m = plc A.fr k (A.ordl a k) (A.ordl a k).length → ∀ h3 : KH, (∀ j : Nat, j < m → h3 33 j = (A.ordl a k).getD j 0) → (∀ j : Nat, m ≤ j → j < (A.ordl a k).length → h3 33 ((j : Int) + 1) = (A.ordl a k).getD j 0) → (∀ c, c ≠ 33 → h3 c = h c) → Rn (d + 1) 3 78 [xR 32, xI a, xI ((A.ordl a k).length : Int), xI (k : Int), xI (m : Int)] [] g h3 Q := by
            intro m hm hp h3 r1 r2 r3
            have e2 : (((A.ordl a k).length : Int) + 1) = ((A.ordl a (k + 1)).length : Int) := by rw [eo, insl_len]; omega
            rw [B3_78, ga C1.k32, r3 32 (by decide), C1.p321, ga ⟨C1.k33, by decide, by omega, by rw [C1.l33]; omega⟩, B3_89, w32_id (by omega) (by omega), w32_id (by omega) (by omega), e1, e2]
            refine ih (k + 1) (by omega) _ _ ?_ (fun c hc => by rw [hset_a _ _ _ hc, r3 c hc])
            rw [eo]
            unfold insl
            rw [← hp]
            exact AtL.put hm r1 r2
          induction m with
          | zero =>
            intro hm hp h3 r1 r2 r3
            rw [B3_31, if_pos (by omega)]
            exact stop 0 hm (by rw [← hp]; rfl) h3 r1 r2 r3
          | succ m im =>
            intro hm hp h3 r1 r2 r3
            obtain ⟨hx, hx2⟩ := hmem m (by omega)
            have S3 : SR g h3 6 l r A := S.now hl hr (fun c _ _ _ => r3 c (by omega))
            have e3 : ((m + 1 : Nat) : Int) - 1 = (m : Int) := by omega
            have e4 : ((m + 1 : Nat) : Int) + -1 = (m : Int) := by omega
            have v := r1 m (by omega)
            rw [B3_31, if_neg (by omega), ga C1.k32, ga C1.k32, r3 32 (by decide), C1.p321, w32_id (by omega) (by omega), e3, ga ⟨C1.k33, by omega, by rw [C1.l33]; omega⟩, C1.p320, ga S.k0, v]
            refine S58 S3 O hi hx ?_
            rw [plc_s] at hp
            by_cases hc : A.fr k < A.fr ((A.ordl a k).getD m 0)
            · rw [if_pos hc] at hp
              rw [bzt (Or.inl hc), o1, List.cons_append, List.nil_append, B3_53, if_neg (by decide), ga C1.k32, ga C1.k32, r3 32 (by decide), C1.p321, w32_id (by omega) (by omega), e3, ga ⟨C1.k33, by omega, by rw [C1.l33]; omega⟩, ga ⟨C1.k33, by decide, by omega, by rw [C1.l33]; omega⟩, w32_id (by omega) (by omega), e4]
              refine im (by omega) hp _ (fun j hj => by rw [hset_i _ _ (by omega)]; exact r1 j (by omega)) (fun j j0 j1 => ?_) (fun c hc => by rw [hset_a _ _ _ hc, r3 c hc])
              by_cases hj : j = m
              · rw [hj, show ((m : Int) + 1) = ((m + 1 : Nat) : Int) by omega, hset_e, v]
              · rw [hset_i _ _ (by omega)]; exact r2 j (by omega) j1
            · rw [if_neg hc] at hp
              rw [bzf (by omega), o1, List.cons_append, List.nil_append, B3_53, if_pos rfl]
              exact stop (m + 1) hm hp h3 r1 r2 r3
        exact inner (A.ordl a k).length (Nat.le_refl _) rfl h1 q1 (fun j j0 j1 => by omega) q2
      · rw [if_pos ha, B3_89, w32_id (by omega) (by omega), e1]
        have eo : A.ordl a (k + 1) = A.ordl a k := by rw [St.ordl, if_neg ha]
        have z := ih (k + 1) (by omega) h1 x (by rw [eo]; exact q1) q2
        rw [eo] at z
        exact z
  rw [E3]
  exact outer A.ns.toNat 0 (by omega) h _ (fun i hi => absurd hi (Nat.not_lt_zero _)) (fun _ _ => rfl)
theorem S225 {g : KG} {h : KH} {A : St} (K : MK g h) (M : MS (h 139) A) (O : A.Ok) {a : Int} {d : Nat} {Q : Option KV → KG → KH → Prop} (hQ : ∀ h2 : KH, AtL h2 147 (A.ordl a A.ns.toNat) → h2 138 30 = ((A.ordl a A.ns.toNat).length : Int) → (∀ c, c ≠ 138 → c ≠ 147 → h2 c = h c) → (∀ j, j ≠ 30 → h2 138 j = h 138 j) → Q none g h2) : Cl (d + 2) 225 [xR 138, xI a] g h Q := by
  have hns := O.ns
  have outer : ∀ n k : Nat, k + n = A.ns.toNat → ∀ (h1 : KH) (x : KV), AtL h1 147 (A.ordl a k) → h1 138 30 = ((A.ordl a k).length : Int) → (∀ c, c ≠ 138 → c ≠ 147 → h1 c = h c) → (∀ j, j ≠ 30 → h1 138 j = h 138 j) → Rn (d + 1) 225 7 [xR 138, xI a, xI (k : Int), x] [] g h1 Q := by
    intro n
    induction n with
    | zero =>
      intro k hk h1 x q1 q2 q3 q4
      have hk : k = A.ns.toNat := by omega
      rw [B225_7, ga K.k0, q4 0 (by decide), K.pat, ga ⟨K.kat, by decide, by rw [K.lat]; decide⟩, q3 139 (by decide) (by decide), M.ns, if_pos (by omega)]
      rw [hk] at q1 q2
      exact hQ h1 q1 q2 q3 q4
    | succ n ih =>
      intro k hk h1 x q1 q2 q3 q4
      have hi : ins A k := ⟨by omega, by omega⟩
      have e1 : ((k : Int) + 1) = ((k + 1 : Nat) : Int) := by omega
      have K1 : MK g h1 := K.keep (fun j hj => q4 j (by omega))
      have M1 : MS (h1 139) A := by rw [q3 139 (by decide) (by decide)]; exact M
      rw [B225_7, ga K.k0, K1.pat, ga ⟨K.kat, by decide, by rw [K.lat]; decide⟩, M1.ns, if_neg (by omega), ga K.k0, S205 K1 ⟨by omega, by omega⟩ (by decide), M1.ask k hi, o1, List.cons_append, List.nil_append, B225_23]
      by_cases ha : A.ask k = a
      · rw [if_pos ha, ga K.k0, q2]
        have eo : A.ordl a (k + 1) = insl A.fr k (A.ordl a k) := by rw [St.ordl, if_pos ha]
        have hlen := ordl_len A a k
        have hmem : ∀ j, j < (A.ordl a k).length → ins A ((A.ordl a k).getD j 0) := fun j hj => by
          have z := (ordl_mem A a _ k).mp (getD_mem hj)
          exact ⟨z.1, by omega⟩
        have inner : ∀ m : Nat, m ≤ (A.ordl a k).length → plc A.fr k (A.ordl a k) m = plc A.fr k (A.ordl a k) (A.ordl a k).length → ∀ h3 : KH, (∀ j : Nat, j < m → h3 147 j = (A.ordl a k).getD j 0) → (∀ j : Nat, m ≤ j → j < (A.ordl a k).length → h3 147 ((j : Int) + 1) = (A.ordl a k).getD j 0) → h3 138 30 = ((A.ordl a k).length : Int) → (∀ c, c ≠ 138 → c ≠ 147 → h3 c = h c) → (∀ j, j ≠ 30 → h3 138 j = h 138 j) → Rn (d + 1) 225 35 [xR 138, xI a, xI (k : Int), xI (m : Int)] [] g h3 Q := by
          intro m
          have stop : ∀ m : Nat, m ≤ (A.ordl a k).length → m = plc A.fr k (A.ordl a k) (A.ordl a k).length → ∀ h3 : KH, (∀ j : Nat, j < m → h3 147 j = (A.ordl a k).getD j 0) → (∀ j : Nat, m ≤ j → j < (A.ordl a k).length → h3 147 ((j : Int) + 1) = (A.ordl a k).getD j 0) → h3 138 30 = ((A.ordl a k).length : Int) → (∀ c, c ≠ 138 → c ≠ 147 → h3 c = h c) → (∀ j, j ≠ 30 → h3 138 j = h 138 j) → Rn (d + 1) 225 81 [xR 138, xI a, xI (k : Int), xI (m : Int)] [] g h3 Q := by
            intro m hm hp h3 r1 r2 r3 r4 r5
            have K3 : MK g h3 := K.keep (fun j hj => r5 j (by omega))
            have e2 : (((A.ordl a k).length : Int) + 1) = ((A.ordl a (k + 1)).length : Int) := by rw [eo, insl_len]; omega
            rw [B225_81, ga K.k0, K3.p28, ga ⟨K.k147, by decide, by omega, by rw [K.l147]; omega⟩, ga K.k0, ga K.k0, B225_98, hset_a _ _ _ (by decide), r3, w32_id (by omega) (by omega), w32_id (by omega) (by omega), e1, e2]
            refine ih (k + 1) (by omega) _ _ ?_ (hset_e _ _ _ _) (fun c hc hd => by rw [hset_a _ _ _ hc, hset_a _ _ _ hd, r4 c hc hd]) (fun j hj => by rw [hset_i _ _ hj, hset_a _ _ _ (by decide), r5 j hj])
            rw [eo]
            unfold insl
            rw [← hp]
            intro i hi
            rw [hset_a _ _ _ (by decide)]
            exact AtL.put hm r1 r2 i hi
          induction m with
          | zero =>
            intro hm hp h3 r1 r2 r3 r4 r5
            rw [B225_35, if_pos (by omega)]
            exact stop 0 hm (by rw [← hp]; rfl) h3 r1 r2 r3 r4 r5
          | succ m im =>
            intro hm hp h3 r1 r2 r3 r4 r5
            have hx := hmem m (by omega)
            have hx0 := hx.1
            have hx1 := hx.2
            have K3 : MK g h3 := K.keep (fun j hj => r5 j (by omega))
            have M3 : MS (h3 139) A := by rw [r4 139 (by decide) (by decide)]; exact M
            have e3 : ((m + 1 : Nat) : Int) - 1 = (m : Int) := by omega
            have e4 : ((m + 1 : Nat) : Int) + -1 = (m : Int) := by omega
            have v := r1 m (by omega)
            rw [B225_35, if_neg (by omega), ga K.k0, K3.p28, w32_id (by omega) (by omega), e3, ga ⟨K.k147, by omega, by rw [K.l147]; omega⟩, ga K.k0, v, S205 K3 ⟨hx0, by omega⟩ (by decide), M3.fr _ hx, o1, List.cons_append, List.nil_append, B225_52, ga K.k0, S205 K3 ⟨by omega, by omega⟩ (by decide), M3.fr k hi, o1, List.cons_append, List.nil_append, B225_58]
            rw [plc_s] at hp
            by_cases hc : A.fr k < A.fr ((A.ordl a k).getD m 0)
            · rw [if_pos hc] at hp
              rw [if_neg (by omega), ga K.k0, ga K.k0, K3.p28, w32_id (by omega) (by omega), e3, ga ⟨K.k147, by omega, by rw [K.l147]; omega⟩, ga ⟨K.k147, by decide, by omega, by rw [K.l147]; omega⟩, w32_id (by omega) (by omega), e4]
              refine im (by omega) hp _ (fun j hj => by rw [hset_i _ _ (by omega)]; exact r1 j (by omega)) (fun j j0 j1 => ?_) (by rw [hset_a _ _ _ (by decide)]; exact r3) (fun c hc hd => by rw [hset_a _ _ _ hd, r4 c hc hd]) (fun j hj => by rw [hset_a _ _ _ (by decide), r5 j hj])
              by_cases hj : j = m
              · rw [hj, show ((m : Int) + 1) = ((m + 1 : Nat) : Int) by omega, hset_e, v]
              · rw [hset_i _ _ (by omega)]; exact r2 j (by omega) j1
            · rw [if_neg hc] at hp
              rw [if_pos (by omega)]
              exact stop (m + 1) hm hp h3 r1 r2 r3 r4 r5
        exact inner (A.ordl a k).length (Nat.le_refl _) rfl h1 q1 (fun j j0 j1 => by omega) q2 q3 q4
      · rw [if_neg ha, B225_98, w32_id (by omega) (by omega), e1]
        have eo : A.ordl a (k + 1) = A.ordl a k := by rw [St.ordl, if_neg ha]
        exact ih (k + 1) (by omega) h1 x (by rw [eo]; exact q1) (by rw [eo]; exact q2) q3 q4
  rw [E225, ga K.k0]
  exact outer A.ns.toNat 0 (by omega) _ _ (fun i hi => absurd hi (Nat.not_lt_zero _)) (hset_e _ _ _ _) (fun c hc _ => hset_a _ _ _ hc) (fun j hj => hset_i _ _ hj)
