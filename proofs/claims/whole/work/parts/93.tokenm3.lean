/-! which word stands here; names; the start of a text -/
def kyl (w : Int) : Int := if w = 6386539 then 0 else if w = 7102839 then 1 else if w = 1835626084 then 2 else if w = 25209 then 3 else if w = 1685024626 then 4 else if w = 2002873451 then 5 else if w = 426836649075 then 6 else -1
def kyr (w : Int) : Int := if w = 1718378855 then 0 else if w = 28530 then 1 else if w = 6385252 then 2 else if w = 7237492 then 3 else if w = 1935764837 then 4 else if w = 495673373300 then 5 else if w = 1818326117 then 6 else if w = 1918988901 then 7 else if w = 1835099237 then 8 else if w = 1667330660 then 9 else if w = 418447455091 then 10 else -1
theorem M178 {g : KG} {h : KH} (K : MK g h) {t : Int → Int} {n p : Nat} (T : MP h t n p) {d : Nat} {Q : Option KV → KG → KH → Prop} (hQ : Q (some (xI (kyl (wdv t n p)))) g h) : Cl (d + 2) 178 [xR 138, xR (-2)] g h Q := by
  have e1 := mkd_1 t n p
  rw [E178, ga K.k0, T.mu.tk]
  by_cases w1 : kd t n p = 1
  · rw [if_pos (by rw [e1]; exact w1)]
    have c0 : pkw (chr (-2)) 1 (4 - 1) = 6386539 := by decide +kernel
    refine W178 K T w1 (Or.inl rfl) 1 4 (by decide) (by decide) (by decide) (by decide) (by decide +kernel) (by decide) (by decide) (fun y => ?_) (fun n0 _ _ _ => ?_)
    · have e : kyl (wdv t n p) = 0 := by rw [y, c0]; decide
      rw [e] at hQ; exact hQ
    rw [c0] at n0
    have c1 : pkw (chr (-2)) 5 (8 - 5) = 7102839 := by decide +kernel
    refine W178 K T w1 (Or.inl rfl) 5 8 (by decide) (by decide) (by decide) (by decide) (by decide +kernel) (by decide) (by decide) (fun y => ?_) (fun n1 _ _ _ => ?_)
    · have e : kyl (wdv t n p) = 1 := by rw [y, c1]; decide
      rw [e] at hQ; exact hQ
    rw [c1] at n1
    have c2 : pkw (chr (-2)) 9 (13 - 9) = 1835626084 := by decide +kernel
    refine W178 K T w1 (Or.inl rfl) 9 13 (by decide) (by decide) (by decide) (by decide) (by decide +kernel) (by decide) (by decide) (fun y => ?_) (fun n2 _ _ _ => ?_)
    · have e : kyl (wdv t n p) = 2 := by rw [y, c2]; decide
      rw [e] at hQ; exact hQ
    rw [c2] at n2
    have c3 : pkw (chr (-2)) 14 (16 - 14) = 25209 := by decide +kernel
    refine W178 K T w1 (Or.inl rfl) 14 16 (by decide) (by decide) (by decide) (by decide) (by decide +kernel) (by decide) (by decide) (fun y => ?_) (fun n3 _ _ _ => ?_)
    · have e : kyl (wdv t n p) = 3 := by rw [y, c3]; decide
      rw [e] at hQ; exact hQ
    rw [c3] at n3
    have c4 : pkw (chr (-2)) 17 (21 - 17) = 1685024626 := by decide +kernel
    refine W178 K T w1 (Or.inl rfl) 17 21 (by decide) (by decide) (by decide) (by decide) (by decide +kernel) (by decide) (by decide) (fun y => ?_) (fun n4 _ _ _ => ?_)
    · have e : kyl (wdv t n p) = 4 := by rw [y, c4]; decide
      rw [e] at hQ; exact hQ
    rw [c4] at n4
    have c5 : pkw (chr (-2)) 22 (26 - 22) = 2002873451 := by decide +kernel
    refine W178 K T w1 (Or.inl rfl) 22 26 (by decide) (by decide) (by decide) (by decide) (by decide +kernel) (by decide) (by decide) (fun y => ?_) (fun n5 _ _ _ => ?_)
    · have e : kyl (wdv t n p) = 5 := by rw [y, c5]; decide
      rw [e] at hQ; exact hQ
    rw [c5] at n5
    have c6 : pkw (chr (-2)) 27 (32 - 27) = 426836649075 := by decide +kernel
    refine W178 K T w1 (Or.inl rfl) 27 32 (by decide) (by decide) (by decide) (by decide) (by decide +kernel) (by decide) (by decide) (fun y => ?_) (fun n6 _ _ _ => ?_)
    · have e : kyl (wdv t n p) = 6 := by rw [y, c6]; decide
      rw [e] at hQ; exact hQ
    rw [c6] at n6
    have e : kyl (wdv t n p) = -1 := by unfold kyl; rw [if_neg n0, if_neg n1, if_neg n2, if_neg n3, if_neg n4, if_neg n5, if_neg n6]
    rw [e] at hQ
    rw [B178_14, ga (Or.inl rfl), if_pos (by decide)]
    exact hQ
  · have e : kyl (wdv t n p) = -1 := by unfold wdv; rw [if_neg (fun z => w1 z.1)]; decide
    rw [e] at hQ
    rw [if_neg (fun z => w1 (by rw [e1] at z; exact z))]
    exact hQ
theorem R178 {g : KG} {h : KH} (K : MK g h) {t : Int → Int} {n p : Nat} (T : MP h t n p) {d : Nat} {Q : Option KV → KG → KH → Prop} (hQ : Q (some (xI (kyr (wdv t n p)))) g h) : Cl (d + 2) 178 [xR 138, xR (-3)] g h Q := by
  have e1 := mkd_1 t n p
  rw [E178, ga K.k0, T.mu.tk]
  by_cases w1 : kd t n p = 1
  · rw [if_pos (by rw [e1]; exact w1)]
    have c0 : pkw (chr (-3)) 1 (5 - 1) = 1718378855 := by decide +kernel
    refine W178 K T w1 (Or.inr rfl) 1 5 (by decide) (by decide) (by decide) (by decide) (by decide +kernel) (by decide) (by decide) (fun y => ?_) (fun n0 _ _ _ => ?_)
    · have e : kyr (wdv t n p) = 0 := by rw [y, c0]; decide
      rw [e] at hQ; exact hQ
    rw [c0] at n0
    have c1 : pkw (chr (-3)) 6 (8 - 6) = 28530 := by decide +kernel
    refine W178 K T w1 (Or.inr rfl) 6 8 (by decide) (by decide) (by decide) (by decide) (by decide +kernel) (by decide) (by decide) (fun y => ?_) (fun n1 _ _ _ => ?_)
    · have e : kyr (wdv t n p) = 1 := by rw [y, c1]; decide
      rw [e] at hQ; exact hQ
    rw [c1] at n1
    have c2 : pkw (chr (-3)) 9 (12 - 9) = 6385252 := by decide +kernel
    refine W178 K T w1 (Or.inr rfl) 9 12 (by decide) (by decide) (by decide) (by decide) (by decide +kernel) (by decide) (by decide) (fun y => ?_) (fun n2 _ _ _ => ?_)
    · have e : kyr (wdv t n p) = 2 := by rw [y, c2]; decide
      rw [e] at hQ; exact hQ
    rw [c2] at n2
    have c3 : pkw (chr (-3)) 13 (16 - 13) = 7237492 := by decide +kernel
    refine W178 K T w1 (Or.inr rfl) 13 16 (by decide) (by decide) (by decide) (by decide) (by decide +kernel) (by decide) (by decide) (fun y => ?_) (fun n3 _ _ _ => ?_)
    · have e : kyr (wdv t n p) = 3 := by rw [y, c3]; decide
      rw [e] at hQ; exact hQ
    rw [c3] at n3
    have c4 : pkw (chr (-3)) 17 (21 - 17) = 1935764837 := by decide +kernel
    refine W178 K T w1 (Or.inr rfl) 17 21 (by decide) (by decide) (by decide) (by decide) (by decide +kernel) (by decide) (by decide) (fun y => ?_) (fun n4 _ _ _ => ?_)
    · have e : kyr (wdv t n p) = 4 := by rw [y, c4]; decide
      rw [e] at hQ; exact hQ
    rw [c4] at n4
    have c5 : pkw (chr (-3)) 22 (27 - 22) = 495673373300 := by decide +kernel
    refine W178 K T w1 (Or.inr rfl) 22 27 (by decide) (by decide) (by decide) (by decide) (by decide +kernel) (by decide) (by decide) (fun y => ?_) (fun n5 _ _ _ => ?_)
    · have e : kyr (wdv t n p) = 5 := by rw [y, c5]; decide
      rw [e] at hQ; exact hQ
    rw [c5] at n5
    have c6 : pkw (chr (-3)) 28 (32 - 28) = 1818326117 := by decide +kernel
    refine W178 K T w1 (Or.inr rfl) 28 32 (by decide) (by decide) (by decide) (by decide) (by decide +kernel) (by decide) (by decide) (fun y => ?_) (fun n6 _ _ _ => ?_)
    · have e : kyr (wdv t n p) = 6 := by rw [y, c6]; decide
      rw [e] at hQ; exact hQ
    rw [c6] at n6
    have c7 : pkw (chr (-3)) 33 (37 - 33) = 1918988901 := by decide +kernel
    refine W178 K T w1 (Or.inr rfl) 33 37 (by decide) (by decide) (by decide) (by decide) (by decide +kernel) (by decide) (by decide) (fun y => ?_) (fun n7 _ _ _ => ?_)
    · have e : kyr (wdv t n p) = 7 := by rw [y, c7]; decide
      rw [e] at hQ; exact hQ
    rw [c7] at n7
    have c8 : pkw (chr (-3)) 38 (42 - 38) = 1835099237 := by decide +kernel
    refine W178 K T w1 (Or.inr rfl) 38 42 (by decide) (by decide) (by decide) (by decide) (by decide +kernel) (by decide) (by decide) (fun y => ?_) (fun n8 _ _ _ => ?_)
    · have e : kyr (wdv t n p) = 8 := by rw [y, c8]; decide
      rw [e] at hQ; exact hQ
    rw [c8] at n8
    have c9 : pkw (chr (-3)) 43 (47 - 43) = 1667330660 := by decide +kernel
    refine W178 K T w1 (Or.inr rfl) 43 47 (by decide) (by decide) (by decide) (by decide) (by decide +kernel) (by decide) (by decide) (fun y => ?_) (fun n9 _ _ _ => ?_)
    · have e : kyr (wdv t n p) = 9 := by rw [y, c9]; decide
      rw [e] at hQ; exact hQ
    rw [c9] at n9
    have c10 : pkw (chr (-3)) 48 (53 - 48) = 418447455091 := by decide +kernel
    refine W178 K T w1 (Or.inr rfl) 48 53 (by decide) (by decide) (by decide) (by decide) (by decide +kernel) (by decide) (by decide) (fun y => ?_) (fun n10 _ _ _ => ?_)
    · have e : kyr (wdv t n p) = 10 := by rw [y, c10]; decide
      rw [e] at hQ; exact hQ
    rw [c10] at n10
    have e : kyr (wdv t n p) = -1 := by unfold kyr; rw [if_neg n0, if_neg n1, if_neg n2, if_neg n3, if_neg n4, if_neg n5, if_neg n6, if_neg n7, if_neg n8, if_neg n9, if_neg n10]
    rw [e] at hQ
    rw [B178_14, ga (Or.inr rfl), if_pos (by decide)]
    exact hQ
  · have e : kyr (wdv t n p) = -1 := by unfold wdv; rw [if_neg (fun z => w1 z.1)]; decide
    rw [e] at hQ
    rw [if_neg (fun z => w1 (by rw [e1] at z; exact z))]
    exact hQ
theorem wd_n {t : Int → Int} {n p : Nat} (h : wdv t n p ≠ 0) : kd t n p = 1 ∧ rnt ltr t n p - p ≤ 8 := by
  unfold wdv at h
  by_cases z : kd t n p = 1 ∧ rnt ltr t n p - p ≤ 8
  · exact z
  · rw [if_neg z] at h; exact absurd rfl h
theorem wd_p {t : Int → Int} {n p : Nat} (h : kd t n p = 1) (h8 : rnt ltr t n p - p ≤ 8) : wdv t n p ≠ 0 ∧ wdv t n p = pkw t p (rnt ltr t n p - p) := by
  obtain ⟨ee, pe, en, lt⟩ := wd_1 h
  have e : wdv t n p = pkw t p (rnt ltr t n p - p) := by unfold wdv; rw [if_pos ⟨h, h8⟩]
  refine ⟨?_, e⟩
  rw [e]
  obtain ⟨f, hf⟩ : ∃ f, rnt ltr t n p - p = f + 1 := ⟨rnt ltr t n p - p - 1, by omega⟩
  rw [hf] at lt ⊢
  have r := pkw_r t p f (fun i hi => lt i (by omega))
  have c := lt f (by omega)
  unfold pkw
  omega
theorem kyl_n (w : Int) : (kyl w = -1) = (w ≠ 6386539 ∧ w ≠ 7102839 ∧ w ≠ 1835626084 ∧ w ≠ 25209 ∧ w ≠ 1685024626 ∧ w ≠ 2002873451 ∧ w ≠ 426836649075) := by
  unfold kyl
  apply propext
  constructor
  · intro z
    split at z
    · omega
    · split at z
      · omega
      · split at z
        · omega
        · split at z
          · omega
          · split at z
            · omega
            · split at z
              · omega
              · split at z
                · omega
                · omega
  · intro z
    rw [if_neg z.1, if_neg z.2.1, if_neg z.2.2.1, if_neg z.2.2.2.1, if_neg z.2.2.2.2.1, if_neg z.2.2.2.2.2.1, if_neg z.2.2.2.2.2.2]
theorem M184 {g : KG} {h : KH} (K : MK g h) {t : Int → Int} {n p : Nat} (T : MP h t n p) {d : Nat} {Q : Option KV → KG → KH → Prop} (hQ : Q (some (xI (bz (isnmD (wdv t n p))))) g h) : Cl (d + 3) 184 [xR 138] g h Q := by
  have e1 := mkd_1 t n p
  have n7 := T.mt.n7
  have no : ¬ isnmD (wdv t n p) → Rn (d + 2) 184 36 [xR 138] [] g h Q := by
    intro z
    rw [bzf z] at hQ
    rw [B184_36, B184_37, ga (by decide)]
    exact hQ
  rw [E184, ga K.k0, T.mu.tk]
  by_cases w1 : kd t n p = 1
  · obtain ⟨ee, pe, en, lt⟩ := wd_1 w1
    rw [if_neg (fun y => y (by rw [e1]; exact w1)), ga K.k0, ga K.k0, T.mu.en, T.mu.fr, ee, w32_id (by omega) (by omega)]
    by_cases h8 : rnt ltr t n p - p ≤ 8
    · rw [if_neg (by omega), ga K.k0]
      refine M178 K T ?_
      have kn := kyl_n (wdv t n p)
      have wp := wd_p w1 h8
      rw [o1, List.cons_append, List.nil_append, B184_28]
      by_cases z : kyl (wdv t n p) = -1
      · rw [if_neg (fun y => y z), B184_37, ga (by decide)]
        rw [kn] at z
        rw [bzt ⟨wp.1, z⟩] at hQ
        exact hQ
      · rw [if_pos z]
        exact no (fun y => z (by rw [kn]; exact y.2))
    · rw [if_pos (by omega)]
      exact no (fun z => h8 (wd_n z.1).2)
  · rw [if_pos (fun y => w1 (by rw [e1] at y; exact y))]
    exact no (fun z => w1 (wd_n z.1).1)
theorem M185 {g : KG} {h : KH} (K : MK g h) {t : Int → Int} {n p : Nat} (T : MP h t n p) (hw : wdv t n p ≠ 0) {d : Nat} {Q : Option KV → KG → KH → Prop} (hQ : Q (some (xL (wdv t n p))) g h) : Cl (d + 2) 185 [xR 138] g h Q := by
  obtain ⟨w1, h8⟩ := wd_n hw
  obtain ⟨ee, pe, en, lt⟩ := wd_1 w1
  have wp := (wd_p w1 h8).2
  have n7 := T.mt.n7
  rw [wp] at hQ
  have lp : ∀ m k : Nat, k + m = rnt ltr t n p - p → Rn (d + 1) 185 7 [xR 138, xL (pkw t p k), xU, xI ((p + k : Nat) : Int)] [] g h Q := by
    intro m
    induction m with
    | zero =>
      intro k hk
      have hk : k = rnt ltr t n p - p := by omega
      rw [B185_7, ga K.k0, T.mu.en, ee, if_pos (by omega), hk]
      exact hQ
    | succ m ih =>
      intro k hk
      have li := lt k (by omega)
      have bi : byt t n ((p + k : Nat) : Int) = t ((p + k : Nat) : Int) := by
        unfold byt
        rw [if_neg (by omega)]
        unfold uby
        rw [if_neg (by omega)]
      have w := pkw_r t p k (fun i hi => lt i (by omega))
      have w2 : (256 : Int) ^ k ≤ 72057594037927936 := by
        have : ∀ k : Nat, k < 8 → (256 : Int) ^ k ≤ 72057594037927936 := by decide
        exact this k (by omega)
      rw [B185_7, ga K.k0, T.mu.en, ee, if_neg (by omega), ga (by decide), ga K.k0]
      refine S173 K T.mt ?_
      rw [o1, List.cons_append, List.nil_append, B185_24, bi, or_64 w.1 (by omega) (by omega) (by omega), w32_id (by omega) (by omega)]
      exact ih (k + 1) (by omega)
  rw [E185, ga K.k0, T.mu.fr]
  exact lp (rnt ltr t n p - p) 0 (by omega)
theorem M186 {g : KG} {h : KH} (K : MK g h) {t : Int → Int} {n p : Nat} (T : MP h t n p) (hw : wdv t n p ≠ 0) {many : Int} (hm : 0 ≤ many ∧ many ≤ 6) {f : Int → Int} (hf : ∀ q, 0 ≤ q → q < many → h 145 q = f q) {d : Nat} {Q : Option KV → KG → KH → Prop} (hQ : Q (some (xI (fnd f (wdv t n p) many.toNat 0))) g h) : Cl (d + 3) 186 [xR 138, xI many] g h Q := by
  have lp : ∀ m i : Nat, i + m = many.toNat → Q (some (xI (fnd f (wdv t n p) m i))) g h → Rn (d + 2) 186 2 [xR 138, xI many, xI (i : Int)] [] g h Q := by
    intro m
    induction m with
    | zero =>
      intro i hi hq
      rw [B186_2, if_pos (by omega)]
      exact hq
    | succ m ih =>
      intro i hi hq
      have e1 : ((i : Int) + 1) = ((i + 1 : Nat) : Int) := by omega
      unfold fnd at hq
      rw [B186_2, if_neg (by omega), ga K.k0, K.p19, ga ⟨K.k145, by omega, by rw [K.l145]; omega⟩, ga K.k0, hf i (by omega) (by omega)]
      refine M185 K T hw ?_
      rw [o1, List.cons_append, List.nil_append, B186_17]
      simp only [c64eq, ne_eq]
      by_cases y : f i = wdv t n p
      · rw [if_pos y] at hq
        rw [if_neg (fun z => z y)]
        exact hq
      · rw [if_neg y] at hq
        rw [if_pos y, w32_id (by omega) (by omega), e1]
        exact ih (i + 1) (by omega) hq
  rw [E186]
  exact lp many.toNat 0 (by omega) hQ
theorem M180 {g : KG} {h : KH} (K : MK g h) {t : Int → Int} {n : Nat} (n7 : n ≤ 700) (tp : ∀ k : Nat, k < n → h 143 (k : Int) = t (k : Int)) (bt : ∀ k : Nat, k < n → -128 ≤ t (k : Int) ∧ t (k : Int) ≤ 127) {d : Nat} {Q : Option KV → KG → KH → Prop} (hQ : ∀ h2 : KH, (∀ a, a ≠ 138 → a ≠ 144 → h2 a = h a) → (∀ j, (j < 9 ∨ 17 < j ∨ j = 15) → h2 138 j = h 138 j) → MP h2 t n (skp t n 0) → Q none g h2) : Cl (d + 3) 180 [xR 138, xI (n : Int)] g h Q := by
  have lp : ∀ m k : Nat, k + m = n → ∀ h1 : KH, (∀ a, a ≠ 138 → a ≠ 144 → h1 a = h a) → (∀ j, j ≠ 10 → h1 138 j = h 138 j) → h1 138 10 = n → (∀ i : Nat, i < k → h1 144 (i : Int) = t (i : Int)) → Rn (d + 2) 180 7 [xR 138, xI (n : Int), xI (k : Int)] [] g h1 Q := by
    intro m
    induction m with
    | zero =>
      intro k hk h1 f1 j1 v10 c1
      have K1 : MK g h1 := K.keep (fun j hj => j1 j (by omega))
      rw [B180_7, if_pos (by omega), ga K.k0, ga K.k0, ga K.k0, ga K.k0, ga K.k0]
      generalize eH : hset (hset (hset (hset h1 138 9 0) 138 17 0) 138 16 (-1)) 138 13 0 = h2
      have f2 : ∀ a, a ≠ 138 → h2 a = h1 a := fun a ha => by rw [← eH, hset_a _ _ _ ha, hset_a _ _ _ ha, hset_a _ _ _ ha, hset_a _ _ _ ha]
      have j2 : ∀ j, j ≠ 9 → j ≠ 13 → j ≠ 16 → j ≠ 17 → h2 138 j = h1 138 j := fun j a b c e => by rw [← eH, hset_i _ _ b, hset_i _ _ c, hset_i _ _ e, hset_i _ _ a]
      have w9 : h2 138 9 = 0 := by rw [← eH, hset_i _ _ (by decide), hset_i _ _ (by decide), hset_i _ _ (by decide), hset_e]
      have w17 : h2 138 17 = 0 := by rw [← eH, hset_i _ _ (by decide), hset_i _ _ (by decide), hset_e]
      have w16 : h2 138 16 = -1 := by rw [← eH, hset_i _ _ (by decide), hset_e]
      have w13 : h2 138 13 = (0 : Nat) := by rw [← eH, hset_e]; rfl
      have K2 : MK g h2 := K1.keep (fun j hj => j2 j (by omega) (by omega) (by omega) (by omega))
      have M2 : MT h2 t n := ⟨n7, by rw [j2 10 (by decide) (by decide) (by decide) (by decide), v10], fun i hi => by rw [f2 144 (by decide)]; exact c1 i (by omega), bt⟩
      refine A176 K2 M2 (by omega) w13 (fun h3 f3 j3 U => ?_)
      rw [o0, List.nil_append, B180_54]
      exact hQ h3 (fun a x y => by rw [f3 a x, f2 a x, f1 a x y]) (fun j hj => by rw [j3 j (by omega), j2 j (by omega) (by omega) (by omega) (by omega), j1 j (by omega)]) ⟨M2.keep (j3 10 (by decide)) (f3 144 (by decide)), U, by rw [j3 17 (by decide), w17], by rw [j3 16 (by decide), w16], by rw [j3 9 (by decide), w9]⟩
    | succ m ih =>
      intro k hk h1 f1 j1 v10 c1
      have K1 : MK g h1 := K.keep (fun j hj => j1 j (by omega))
      have e1 : ((k : Int) + 1) = ((k + 1 : Nat) : Int) := by omega
      have b := bt k (by omega)
      have v : h1 143 (k : Int) = t (k : Int) := by rw [f1 143 (by decide) (by decide)]; exact tp k (by omega)
      rw [B180_7, if_neg (by omega), ga K.k0, ga K.k0, K1.p7, ga ⟨Or.inl K.k143, by omega, by rw [K.l143]; omega⟩, K1.p8, v, ga ⟨Or.inl ⟨K.k144, b.1, b.2⟩, by omega, by rw [K.l144]; omega⟩, w32_id (by omega) (by omega), e1]
      refine ih (k + 1) (by omega) _ (fun a x y => by rw [hset_a _ _ _ y, f1 a x y]) (fun j hj => by rw [hset_a _ _ _ (by decide), j1 j hj]) (by rw [hset_a _ _ _ (by decide), v10]) (fun i hi => ?_)
      by_cases e : i = k
      · rw [e, hset_e]
      · rw [hset_i _ _ (by omega)]; exact c1 i (by omega)
  rw [E180, ga K.k0]
  exact lp n 0 (by omega) _ (fun a x y => hset_a _ _ _ x) (fun j hj => hset_i _ _ hj) (hset_e _ _ _ _) (fun i hi => by omega)
