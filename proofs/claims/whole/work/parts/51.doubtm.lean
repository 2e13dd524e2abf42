/-! doubtful, on the model's side -/
theorem or32_r (a b : Int) : -2147483648 ≤ or32 a b ∧ or32 a b ≤ 2147483647 := by
  unfold or32
  have h1 := BitVec.le_toInt (BitVec.ofInt 32 a ||| BitVec.ofInt 32 b)
  have h2 := BitVec.toInt_lt (x := BitVec.ofInt 32 a ||| BitVec.ofInt 32 b)
  omega
theorem or32_0 {a : Int} (h : -2147483648 ≤ a ∧ a ≤ 2147483647) : or32 a 0 = a := by
  unfold or32
  rw [show BitVec.ofInt 32 0 = 0#32 from rfl, BitVec.or_zero, BitVec.toInt_ofInt]
  exact Int.bmod_eq_of_le (by omega) (by omega)
theorem St.dset_r (A : St) (sh f : Int) : ∀ n : Nat, -2147483648 ≤ A.dset sh f n ∧ A.dset sh f n ≤ 2147483647 := by
  intro n
  induction n with
  | zero => exact ⟨by show (-2147483648 : Int) ≤ 0; decide, by show (0 : Int) ≤ 2147483647; decide⟩
  | succ n ih =>
    unfold St.dset
    split
    · exact or32_r _ _
    · exact ih
theorem dbt_iff {a b f : Int} (ha : 0 ≤ a) (hb : 0 ≤ b) (hf : 0 ≤ f) : (f ≤ pmade a b 16) ↔ (0 < a + b ∧ f * (a + b) ≤ 16 * a) := by
  unfold pmade
  by_cases hz : a + b ≤ 0
  · rw [if_pos hz]
    omega
  · rw [if_neg hz, Int.le_ediv_iff_mul_le (by omega), Int.mul_comm a 16]
    exact ⟨fun z => ⟨by omega, z⟩, fun z => z.2⟩
theorem C244 {W : Wd} {sh f : Int} : Mi 244 [xR 138, xI sh, xI f] 6 W (W.doubt sh f) := by
  intro g h C O d Q hQ
  have K := C.1
  have M := C.2.2.cur
  have h16 := O.ns
  rw [E244, S219]
  have no : ¬ ((0 ≤ sh ∧ sh ≤ 16) ∧ 0 ≤ f ∧ f ≤ 16) → Rn (d + 5) 244 14 [xR 138, xI sh, xI f, xU, xU] [] g h Q := by
    intro z
    unfold Wd.doubt at hQ
    rw [if_neg z] at hQ
    simp only [E244, B244_4, B244_11, B244_14, B244_19, B244_43, B244_79, B244_80, B244_93, o1, o0, List.cons_append, List.nil_append, ite_not, bzF, bzT, if_true, if_false, ↓reduceIte, Int.reduceEq, Int.reduceLE, Int.reduceLT, Int.reduceNeg, ne_eq, not_true_eq_false, not_false_eq_true, and_self, and_true, true_and, and_false, false_and, eq_self, K.k0, S160 (k := K.k0), S161 (k := K.k0), S162 (k := K.k0)]
    exact mst C hQ
  by_cases h1 : 0 ≤ sh ∧ sh ≤ 16
  · rw [bzt h1]
    simp only [B244_4, o1, o0, List.cons_append, List.nil_append, ite_not, bzF, bzT, if_true, if_false, ↓reduceIte, Int.reduceEq, Int.reduceLE, Int.reduceLT, Int.reduceNeg, ne_eq, not_true_eq_false, not_false_eq_true, and_self, and_true, true_and, and_false, false_and, eq_self, S219]
    by_cases h2 : 0 ≤ f ∧ f ≤ 16
    · rw [bzt h2]
      unfold Wd.doubt at hQ
      rw [if_pos ⟨h1, h2⟩] at hQ
      simp only [B244_11, o1, o0, List.cons_append, List.nil_append, ite_not, bzF, bzT, if_true, if_false, ↓reduceIte, Int.reduceEq, Int.reduceLE, Int.reduceLT, Int.reduceNeg, ne_eq, not_true_eq_false, not_false_eq_true, and_self, and_true, true_and, and_false, false_and, eq_self]
      have lp : ∀ n i : Nat, i + n = W.cur.ns.toNat → ∀ hh : KH, (∀ a, a ≠ 138 → hh a = h a) → (∀ j, j ≠ 26 → j ≠ 27 → hh 138 j = h 138 j) → Rn (d + 5) 244 25 [xR 138, xI sh, xI f, xI (W.cur.dset sh f i), xI (i : Int)] [] g hh Q := by
        intro n
        induction n with
        | zero =>
          intro i hi hh e1 e2
          have hi : i = W.cur.ns.toNat := by omega
          have K2 : MK g hh := K.keep (fun j hj => e2 j (by omega) (by omega))
          have M2 : MS (hh 139) W.cur := by rw [e1 139 (by decide)]; exact M
          have g2 : gK g 139 = 20 ∧ 0 ≤ (2 : Int) ∧ (2 : Int) < gL g 139 := ⟨K.kat, by decide, by rw [K.lat]; decide⟩
          rw [B244_25, ga K.k0, K2.pat, ga g2, M2.ns, if_pos (by omega), hi]
          simp only [S160 (k := K.k0), S161 (k := K.k0), S162 (k := K.k0), o1, o0, List.cons_append, List.nil_append, B244_93, K.k0, true_and]
          exact mst2 C (fun a h0 _ _ => e1 a (by omega)) (fun j hj => e2 j hj.2.1 hj.2.2.1) (fun a ha => e1 a (by omega)) hQ
        | succ n ih =>
          intro i hi hh e1 e2
          have hs : ins W.cur i := ⟨by omega, by omega⟩
          have hp := O.pa i hs
          have b1 := O.mside (s := i) hp h1
          have b2 := O.aside (s := i) hp h1
          have e3 : ((i : Int) + 1) = ((i + 1 : Nat) : Int) := by omega
          have ih := ih (i + 1) (by omega)
          unfold St.dset at ih
          have K2 : MK g hh := K.keep (fun j hj => e2 j (by omega) (by omega))
          have M2 : MS (hh 139) W.cur := by rw [e1 139 (by decide)]; exact M
          have g2 : gK g 139 = 20 ∧ 0 ≤ (2 : Int) ∧ (2 : Int) < gL g 139 := ⟨K.kat, by decide, by rw [K.lat]; decide⟩
          rw [B244_25, ga K.k0, K2.pat, ga g2, M2.ns, if_neg (by omega), ga K.k0]
          refine S218 K2 M2 O hs h1 ?_
          have q := dbt_iff b1.2.2.1 b2.2.2.1 h2.1
          have k26 : (hset (hset hh 138 26 (W.cur.mside i (W.cur.pa i) sh)) 138 27 (W.cur.mside i (W.cur.pa i) sh + W.cur.aside i (W.cur.pa i) sh)) 138 26 = W.cur.mside i (W.cur.pa i) sh := by rw [hset_i _ _ (by decide), hset_e]
          have z1 : ∀ a, a ≠ 138 → (hset (hset hh 138 26 (W.cur.mside i (W.cur.pa i) sh)) 138 27 (W.cur.mside i (W.cur.pa i) sh + W.cur.aside i (W.cur.pa i) sh)) a = h a := fun a ha => by rw [hset_a _ _ _ ha, hset_a _ _ _ ha]; exact e1 a ha
          have z2 : ∀ j, j ≠ 26 → j ≠ 27 → (hset (hset hh 138 26 (W.cur.mside i (W.cur.pa i) sh)) 138 27 (W.cur.mside i (W.cur.pa i) sh + W.cur.aside i (W.cur.pa i) sh)) 138 j = h 138 j := fun j j1 j2 => by rw [hset_i _ _ j2, hset_i _ _ j1]; exact e2 j j1 j2
          have ih := ih _ z1 z2
          have m1 := Int.mul_nonneg h2.1 (show 0 ≤ W.cur.mside i (W.cur.pa i) sh + W.cur.aside i (W.cur.pa i) sh by omega)
          have m2 := Int.mul_le_mul h2.2 (show W.cur.mside i (W.cur.pa i) sh + W.cur.aside i (W.cur.pa i) sh ≤ 8589934592 by omega) (by omega) (by decide)
          simp only [o1, o0, List.cons_append, List.nil_append, B244_43, K.k0, true_and, k26, hset_e, c64le, c64lt]
          rw [w64_id (x := 16 * W.cur.mside i (W.cur.pa i) sh) (by omega) (by omega), w64_id (x := f * (W.cur.mside i (W.cur.pa i) sh + W.cur.aside i (W.cur.pa i) sh)) (by omega) (by omega)]
          have no0 : ¬ f ≤ W.cur.dbt i sh 16 → Rn (d + 5) 244 79 [xR 138, xI sh, xI f, xI (W.cur.dset sh f i), xI (i : Int)] [xI (W.cur.dset sh f i)] g (hset (hset hh 138 26 (W.cur.mside i (W.cur.pa i) sh)) 138 27 (W.cur.mside i (W.cur.pa i) sh + W.cur.aside i (W.cur.pa i) sh)) Q := by
            intro z
            rw [if_neg z] at ih
            rw [B244_79, B244_80, or32_0 (W.cur.dset_r sh f i), w32_id (by omega) (by omega), e3]
            exact ih
          by_cases c1 : W.cur.mside i (W.cur.pa i) sh + W.cur.aside i (W.cur.pa i) sh ≤ 0
          · rw [if_pos c1]
            exact no0 (fun z => by have := (q.mp z).1; omega)
          · rw [if_neg c1]
            by_cases c2 : 16 * W.cur.mside i (W.cur.pa i) sh < f * (W.cur.mside i (W.cur.pa i) sh + W.cur.aside i (W.cur.pa i) sh)
            · rw [if_pos c2]
              exact no0 (fun z => by have := (q.mp z).2; omega)
            · rw [if_neg c2, ga (by omega), B244_80, w32_id (by omega) (by omega), e3]
              rw [if_pos (show f ≤ W.cur.dbt i sh 16 from q.mpr ⟨by omega, by omega⟩)] at ih
              exact ih
      exact lp W.cur.ns.toNat 0 (by omega) h (fun _ _ => rfl) (fun _ _ _ => rfl)
    · rw [bzf h2]
      simp only [B244_11, o1, o0, List.cons_append, List.nil_append, ite_not, bzF, bzT, if_true, if_false, ↓reduceIte, Int.reduceEq, Int.reduceLE, Int.reduceLT, Int.reduceNeg, ne_eq, not_true_eq_false, not_false_eq_true, and_self, and_true, true_and, and_false, false_and, eq_self]
      exact no (fun z => h2 z.2)
  · rw [bzf h1]
    simp only [B244_4, o1, o0, List.cons_append, List.nil_append, ite_not, bzF, bzT, if_true, if_false, ↓reduceIte, Int.reduceEq, Int.reduceLE, Int.reduceLT, Int.reduceNeg, ne_eq, not_true_eq_false, not_false_eq_true, and_self, and_true, true_and, and_false, false_and, eq_self]
    exact no (fun z => h1 z.1)
