/-! flagged, on the model's side -/
theorem amb_iff (A : St) (s : Int) : A.amb s A.ns.toNat = true ↔ ∃ i : Nat, i < A.ns.toNat ∧ A.ams i s := by
  unfold St.amb
  rw [List.any_eq_true]
  constructor
  · rintro ⟨x, hx, hp⟩
    exact ⟨x, List.mem_range.mp hx, of_decide_eq_true hp⟩
  · rintro ⟨x, hx, hp⟩
    exact ⟨x, List.mem_range.mpr hx, decide_eq_true hp⟩
/-- amiss by places in the order -/
def St.amo (A : St) (L : List Int) (k : Nat) (s : Int) : Nat → Bool
  | 0 => false
  | i + 1 => A.amo L k s i || (decide (i < k ∧ ¬ A.fit s (L.getD i 0)) || decide (k < i ∧ ¬ A.fit (L.getD i 0) s))
theorem amo_s (A : St) (L : List Int) (k : Nat) (s : Int) (i : Nat) : A.amo L k s (i + 1) = (A.amo L k s i || (decide (i < k ∧ ¬ A.fit s (L.getD i 0)) || decide (k < i ∧ ¬ A.fit (L.getD i 0) s))) := rfl
theorem amo_iff (A : St) (L : List Int) (k : Nat) (s : Int) : ∀ n, A.amo L k s n = true ↔ ∃ i, i < n ∧ ((i < k ∧ ¬ A.fit s (L.getD i 0)) ∨ (k < i ∧ ¬ A.fit (L.getD i 0) s)) := by
  intro n
  induction n with
  | zero => exact ⟨fun h => absurd h (by unfold St.amo; decide), fun ⟨i, h, _⟩ => absurd h (by omega)⟩
  | succ n ih =>
    rw [amo_s, Bool.or_eq_true, Bool.or_eq_true, decide_eq_true_iff, decide_eq_true_iff, ih]
    constructor
    · rintro (⟨i, h1, h2⟩ | h | h)
      · exact ⟨i, Nat.lt_succ_of_lt h1, h2⟩
      · exact ⟨n, Nat.lt_succ_self n, Or.inl h⟩
      · exact ⟨n, Nat.lt_succ_self n, Or.inr h⟩
    · rintro ⟨i, h1, h2⟩
      by_cases e : i = n
      · rw [e] at h2; exact Or.inr h2
      · exact Or.inl ⟨i, by omega, h2⟩
theorem sorted_g {A : St} {L : List Int} (h : L.Pairwise A.ahd) {i j : Nat} (hij : i < j) (hj : j < L.length) : A.ahd (L.getD i 0) (L.getD j 0) := by
  have p := List.pairwise_iff_getElem.mp h i j (by omega) hj hij
  rw [List.getD_eq_getElem?_getD, List.getD_eq_getElem?_getD, List.getElem?_eq_getElem (by omega), List.getElem?_eq_getElem hj]
  exact p
theorem mem_g {L : List Int} {x : Int} (h : x ∈ L) : ∃ i, i < L.length ∧ L.getD i 0 = x := by
  obtain ⟨i, h1, h2⟩ := List.getElem_of_mem h
  exact ⟨i, h1, by rw [List.getD_eq_getElem?_getD, List.getElem?_eq_getElem h1]; exact h2⟩
theorem ahd_irr {A : St} {x y : Int} (h1 : A.ahd x y) (h2 : A.ahd y x) : False := by unfold St.ahd at *; omega
theorem amo_amb {A : St} {s : Int} (hs : ins A s) {k : Nat} (hk : k < (A.ordl (A.ask s) A.ns.toNat).length) (e : (A.ordl (A.ask s) A.ns.toNat).getD k 0 = s) : A.amo (A.ordl (A.ask s) A.ns.toNat) k s (A.ordl (A.ask s) A.ns.toNat).length = A.amb s A.ns.toNat := by
  have so := ordl_sorted A (A.ask s) A.ns.toNat
  have me := fun x => ordl_mem A (A.ask s) x A.ns.toNat
  have h1 := hs.1
  have h2 := hs.2
  rw [Bool.eq_iff_iff, amo_iff, amb_iff]
  generalize A.ordl (A.ask s) A.ns.toNat = L at *
  constructor
  · rintro ⟨i, hi, hc⟩
    have m := (me _).mp (getD_mem hi)
    obtain ⟨x, hx⟩ : ∃ x : Nat, L.getD i 0 = x := ⟨(L.getD i 0).toNat, by omega⟩
    rw [hx] at m hc
    refine ⟨x, by omega, ?_⟩
    rcases hc with ⟨c1, c2⟩ | ⟨c1, c2⟩
    · have a := sorted_g so c1 hk
      rw [hx, e] at a
      exact ⟨fun z => ahd_irr (A := A) (x := s) (y := s) (by rw [z] at a; exact a) (by rw [z] at a; exact a), m.2.2, Or.inl ⟨a, c2⟩⟩
    · have a := sorted_g so c1 hi
      rw [hx, e] at a
      exact ⟨fun z => ahd_irr (A := A) (x := s) (y := s) (by rw [z] at a; exact a) (by rw [z] at a; exact a), m.2.2, Or.inr ⟨fun z => ahd_irr a z, c2⟩⟩
  · rintro ⟨x, hx, c1, c2, c3⟩
    obtain ⟨i, hi, hi2⟩ := mem_g ((me x).mpr ⟨by omega, by omega, c2⟩)
    refine ⟨i, hi, ?_⟩
    rw [hi2]
    have hne : i ≠ k := fun z => c1 (by rw [← hi2, z, e])
    rcases c3 with ⟨d1, d2⟩ | ⟨d1, d2⟩
    · refine Or.inl ⟨?_, d2⟩
      by_cases hik : i < k
      · exact hik
      · have a := sorted_g so (show k < i by omega) hi
        rw [e, hi2] at a
        exact absurd d1 (fun z => ahd_irr a z)
    · refine Or.inr ⟨?_, d2⟩
      by_cases hik : k < i
      · exact hik
      · have a := sorted_g so (show i < k by omega) hk
        rw [e, hi2] at a
        exact absurd a d1
section FLAGM
variable {g : KG} {h : KH} {A : St} {d : Nat} {Q : Option KV → KG → KH → Prop}
theorem S245 (K : MK g h) (M : MS (h 139) A) (O : A.Ok) {s : Int} (hs : ins A s) (hQ : ∀ h2 : KH, (∀ c, c ≠ 138 → c ≠ 147 → h2 c = h c) → (∀ j, j ≠ 30 → h2 138 j = h 138 j) → Q (some (xI (bz (A.amb s A.ns.toNat = true)))) g h2) : Cl (d + 4) 245 [xR 138, xI s] g h Q := by
  have hns := O.ns
  have s0 := hs.1
  have s1 := hs.2
  rw [E245, ga K.k0, S205 K ⟨s0, by omega⟩ (by decide), M.ask s hs, o1, List.cons_append, List.nil_append, B245_7, ga K.k0]
  refine S225 K M O (fun h1 a1 n1 f1 t1 => ?_)
  have K1 : MK g h1 := K.keep (fun j hj => t1 j (by omega))
  have M1 : MS (h1 139) A := by rw [f1 139 (by decide) (by decide)]; exact M
  have len := ordl_len A (A.ask s) A.ns.toNat
  have me := fun x => ordl_mem A (A.ask s) x A.ns.toNat
  have mem : ∀ j, j < (A.ordl (A.ask s) A.ns.toNat).length → ins A ((A.ordl (A.ask s) A.ns.toNat).getD j 0) := fun j hj => by
    have z := (me _).mp (getD_mem hj)
    exact ⟨z.1, by omega⟩
  have so := ordl_sorted A (A.ask s) A.ns.toNat
  have ab := fun k hk e => amo_amb (A := A) hs (k := k) hk e
  obtain ⟨k0, hk0, ek0⟩ := mem_g ((me s).mpr ⟨s0, by omega, rfl⟩)
  have ab := ab k0 hk0 ek0
  have inj : ∀ j, j < k0 → (A.ordl (A.ask s) A.ns.toNat).getD j 0 ≠ s := fun j hj z => by
    have a := sorted_g so hj hk0
    rw [z, ek0] at a
    exact ahd_irr a a
  generalize A.ordl (A.ask s) A.ns.toNat = L at *
  rw [o0, List.nil_append, B245_10]
  have sum : ∀ n i : Nat, i + n = L.length → Rn (d + 3) 245 33 [xR 138, xI s, xI (k0 : Int), xI (bz (A.amo L k0 s i = true)), xI (i : Int)] [] g h1 Q := by
    intro n
    induction n with
    | zero =>
      intro i hi
      have hi : i = L.length := by omega
      rw [B245_33, ga K.k0, n1, if_pos (by omega), ga bzr, hi, ab]
      exact hQ h1 f1 t1
    | succ n ih =>
      intro i hi
      have e1 : ((i : Int) + 1) = ((i + 1 : Nat) : Int) := by omega
      have nx := ih (i + 1) (by omega)
      have mi := mem i (by omega)
      have v := a1 i (by omega)
      rw [amo_s] at nx
      have yes : (A.amo L k0 s i = true ∨ (i < k0 ∧ ¬ A.fit s (L.getD i 0)) ∨ (k0 < i ∧ ¬ A.fit (L.getD i 0) s)) → Rn (d + 3) 245 88 [xR 138, xI s, xI (k0 : Int), xI (bz (A.amo L k0 s i = true)), xI (i : Int)] [] g h1 Q := by
        intro z
        rw [bzt (by rw [Bool.or_eq_true, Bool.or_eq_true, decide_eq_true_iff, decide_eq_true_iff]; exact z)] at nx
        rw [B245_88, B245_93, w32_id (by omega) (by omega), e1]
        exact nx
      have no : ¬ (A.amo L k0 s i = true ∨ (i < k0 ∧ ¬ A.fit s (L.getD i 0)) ∨ (k0 < i ∧ ¬ A.fit (L.getD i 0) s)) → Rn (d + 3) 245 92 [xR 138, xI s, xI (k0 : Int), xI (bz (A.amo L k0 s i = true)), xI (i : Int)] [] g h1 Q := by
        intro z
        rw [bzf (by rw [Bool.or_eq_true, Bool.or_eq_true, decide_eq_true_iff, decide_eq_true_iff]; exact z)] at nx
        rw [B245_92, B245_93, w32_id (by omega) (by omega), e1]
        exact nx
      rw [B245_33, ga K.k0, n1, if_neg (by omega)]
      by_cases hb : A.amo L k0 s i = true
      · rw [bzt hb, if_pos (by decide)]
        rw [bzt hb] at yes
        exact yes (Or.inl hb)
      · rw [bzf hb, if_neg (fun z => z rfl)]
        rw [bzf hb] at yes no
        by_cases hik : i < k0
        · rw [if_neg (by omega), ga K.k0, K1.p28, ga ⟨K.k147, by omega, by rw [K.l147]; omega⟩, ga K.k0, v]
          refine S226 K1 M1 O hs mi ?_
          rw [o1, List.cons_append, List.nil_append, B245_64]
          by_cases hf : A.tt (L.getD i 0) + A.mins (A.dr (L.getD i 0)) (A.dr s) ≤ A.fr s
          · rw [bzt hf, if_neg (by decide), B245_67, if_pos (by omega)]
            refine no (fun z => ?_)
            rcases z with z | z | z
            · exact hb z
            · exact z.2 hf
            · omega
          · rw [bzf hf, if_pos rfl]
            exact yes (Or.inr (Or.inl ⟨hik, hf⟩))
        · rw [if_pos (by omega), B245_67]
          by_cases hki : k0 < i
          · rw [if_neg (by omega), ga K.k0, K1.p28, ga ⟨K.k147, by omega, by rw [K.l147]; omega⟩, ga K.k0, v]
            refine S226 K1 M1 O mi hs ?_
            rw [o1, List.cons_append, List.nil_append, B245_85]
            by_cases hf : A.tt s + A.mins (A.dr s) (A.dr (L.getD i 0)) ≤ A.fr (L.getD i 0)
            · rw [bzt hf, if_pos (by decide)]
              refine no (fun z => ?_)
              rcases z with z | z | z
              · exact hb z
              · omega
              · exact z.2 hf
            · rw [bzf hf, if_neg (fun z => z rfl)]
              exact yes (Or.inr (Or.inr ⟨hki, hf⟩))
          · rw [if_pos (by omega)]
            refine no (fun z => ?_)
            rcases z with z | z | z
            · exact hb z
            · omega
            · omega
  have find : ∀ n k : Nat, k + n = k0 → Rn (d + 3) 245 12 [xR 138, xI s, xI (k : Int), xU, xU] [] g h1 Q := by
    intro n
    induction n with
    | zero =>
      intro k hk
      have hk : k = k0 := by omega
      rw [hk, B245_12, ga K.k0, K1.p28, ga ⟨K.k147, by omega, by rw [K.l147]; omega⟩, a1 k0 hk0, ek0, if_pos rfl]
      have z := sum L.length 0 (by omega)
      exact z
    | succ n ih =>
      intro k hk
      have e1 : ((k : Int) + 1) = ((k + 1 : Nat) : Int) := by omega
      rw [B245_12, ga K.k0, K1.p28, ga ⟨K.k147, by omega, by rw [K.l147]; omega⟩, a1 k (by omega), if_neg (inj k (by omega)), w32_id (by omega) (by omega), e1]
      exact ih (k + 1) (by omega)
  exact find k0 0 (by omega)
theorem S246 (K : MK g h) (M : MS (h 139) A) (O : A.Ok) {s op nm : Int} (hs : ins A s) (ho : 4 ≤ op ∧ op ≤ 10) (hnm : 0 ≤ nm ∧ nm ≤ 9999) (hQ : ∀ h2 : KH, (∀ c, c ≠ 138 → c ≠ 147 → h2 c = h c) → (∀ j, j ≠ 26 → j ≠ 27 → j ≠ 30 → h2 138 j = h 138 j) → Q (some (xI ((A.say s (A.pa s) op nm).toNat : Int))) g h2) : Cl (d + 6) 246 [xR 138, xI op, xI nm, xI s] g h Q := by
  have hns := O.ns
  have s0 := hs.1
  have s1 := hs.2
  have si : 0 ≤ s ∧ s < 16 := by omega
  have htt := O.tt s hs
  have hfr := O.fr s hs
  have g2 : gK g 139 = 20 ∧ 0 ≤ (2 : Int) ∧ (2 : Int) < gL g 139 := ⟨K.kat, by decide, by rw [K.lat]; decide⟩
  have fin2 : ∀ (c : Prop) [Decidable c] (h2 : KH), A.say s (A.pa s) op nm = decide c → (∀ c, c ≠ 138 → c ≠ 147 → h2 c = h c) → (∀ j, j ≠ 26 → j ≠ 27 → j ≠ 30 → h2 138 j = h 138 j) → Q (some (xI (if c then 1 else 0))) g h2 := by
    intro c _ h2 hc f2 t2
    have hQ := hQ h2 f2 t2
    rw [hc] at hQ
    by_cases h1 : c
    · rw [if_pos h1]; rw [decide_eq_true h1] at hQ; exact hQ
    · rw [if_neg h1]; rw [decide_eq_false h1] at hQ; exact hQ
  have fin : ∀ (c : Prop) [Decidable c], A.say s (A.pa s) op nm = decide c → Q (some (xI (if c then 1 else 0))) g h := fun c _ hc => fin2 c h hc (fun _ _ _ => rfl) (fun _ _ _ _ => rfl)
  have : op = 4 ∨ op = 5 ∨ op = 6 ∨ op = 7 ∨ op = 8 ∨ op = 9 ∨ op = 10 := by omega
  rw [E246]
  rcases this with rfl | rfl | rfl | rfl | rfl | rfl | rfl
  · have f := fin (nm ≤ A.sc s (A.pa s) A.ns.toNat) rfl
    simp only [Sw_cons, Sw_nil, ite_not, bzF, bzT, if_true, if_false, ↓reduceIte, Int.reduceEq, Int.reduceLE, Int.reduceLT, Int.reduceNeg, ne_eq, not_true_eq_false, not_false_eq_true, and_self, and_true, true_and, and_false, false_and, eq_self, B246_40]
    have lp : ∀ n o : Nat, o + n = A.ns.toNat → Rn (d + 5) 246 46 [xR 138, xI 4, xI nm, xI s, xI (A.sc s (A.pa s) o), xI (o : Int)] [] g h Q := by
      intro n
      induction n with
      | zero =>
        intro o ho
        have ho : o = A.ns.toNat := by omega
        rw [B246_46, ga K.k0, K.pat, ga g2, M.ns, if_pos (by omega), ho]
        by_cases hc : nm ≤ A.sc s (A.pa s) A.ns.toNat
        · rw [if_pos hc] at f; rw [if_neg (by omega), B246_116, g11]; exact f
        · rw [if_neg hc] at f; rw [if_pos (by omega), B246_116, g01]; exact f
      | succ n ih =>
        intro o ho
        have hoo : ins A o := ⟨by omega, by omega⟩
        have e1 : ((o : Int) + 1) = ((o + 1 : Nat) : Int) := by omega
        have sr := sc_r A s (A.pa s) o
        have nx := ih (o + 1) (by omega)
        rw [St.sc] at nx
        have so : 0 ≤ (o : Int) ∧ (o : Int) < 16 := by omega
        have skip : ¬ ((o : Int) ≠ s ∧ A.ask o = A.ask s ∧ A.pa o = A.pa s) → Rn (d + 5) 246 95 [xR 138, xI 4, xI nm, xI s, xI (A.sc s (A.pa s) o), xI (o : Int)] [xI (A.sc s (A.pa s) o)] g h Q := by
          intro z
          rw [bzf z] at nx
          rw [B246_95, B246_96, w32_id (by omega) (by omega), w32_id (by omega) (by omega), e1]
          exact nx
        rw [B246_46, ga K.k0, K.pat, ga g2, M.ns, if_neg (by omega)]
        by_cases hos : (o : Int) = s
        · rw [if_pos hos]; exact skip (fun z => z.1 hos)
        · rw [if_neg hos, ga K.k0, S205 K so (by decide), M.ask o hoo, o1, List.cons_append, List.nil_append, B246_72, ga K.k0, S205 K si (by decide), M.ask s hs, o1, List.cons_append, List.nil_append, B246_78]
          by_cases ha : A.ask o = A.ask s
          · rw [if_neg (fun z => z ha), ga K.k0]
            refine S229 K M O hoo hs ?_
            have rd := St.row_dif O (O.pa _ hoo) (O.pa _ hs)
            rw [o1, List.cons_append, List.nil_append, B246_88]
            by_cases hd : dif (A.pa o) (A.pa s) A.nq.toNat = 0
            · rw [bzt ⟨hos, ha, rd.mp hd⟩] at nx
              rw [if_neg (fun z => z hd), B246_96, w32_id (by omega) (by omega), w32_id (by omega) (by omega), e1]
              exact nx
            · rw [if_pos hd]; exact skip (fun z => hd (rd.mpr z.2.2))
          · rw [if_pos ha]; exact skip (fun z => ha z.2.1)
    exact lp A.ns.toNat 0 (by omega)
  · have f := fin (A.tt s - A.fr s < nm) rfl
    simp only [Sw_cons, Sw_nil, ite_not, bzF, bzT, if_true, if_false, ↓reduceIte, Int.reduceEq, Int.reduceLE, Int.reduceLT, Int.reduceNeg, ne_eq, not_true_eq_false, not_false_eq_true, and_self, and_true, true_and, and_false, false_and, eq_self, B246_117, K.k0]
    rw [S205 K si (by decide), M.tt s hs, o1, List.cons_append, List.nil_append, B246_123, ga K.k0, S205 K si (by decide), M.fr s hs, o1, List.cons_append, List.nil_append, B246_129, w32_id (by omega) (by omega)]
    by_cases hc : A.tt s - A.fr s < nm
    · rw [if_pos hc] at f; rw [if_neg (by omega), B246_139, g11]; exact f
    · rw [if_neg hc] at f; rw [if_pos (by omega), B246_139, g01]; exact f
  · have f := fin (nm < A.tt s) rfl
    simp only [Sw_cons, Sw_nil, ite_not, bzF, bzT, if_true, if_false, ↓reduceIte, Int.reduceEq, Int.reduceLE, Int.reduceLT, Int.reduceNeg, ne_eq, not_true_eq_false, not_false_eq_true, and_self, and_true, true_and, and_false, false_and, eq_self, B246_140, K.k0]
    rw [S205 K si (by decide), M.tt s hs, o1, List.cons_append, List.nil_append, B246_146]
    by_cases hc : nm < A.tt s
    · rw [if_pos hc] at f; rw [if_neg (by omega), B246_155, g11]; exact f
    · rw [if_neg hc] at f; rw [if_pos (by omega), B246_155, g01]; exact f
  · have f := fin (A.prod A.nq (A.pa s) < nm) rfl
    simp only [Sw_cons, Sw_nil, ite_not, bzF, bzT, if_true, if_false, ↓reduceIte, Int.reduceEq, Int.reduceLE, Int.reduceLT, Int.reduceNeg, ne_eq, not_true_eq_false, not_false_eq_true, and_self, and_true, true_and, and_false, false_and, eq_self, B246_156, K.k0]
    refine S216 K M O hs ?_
    rw [if_pos rfl, o1, List.cons_append, List.nil_append, B246_162]
    simp only [c64ge]
    by_cases hc : A.prod A.nq (A.pa s) < nm
    · rw [if_pos hc] at f; rw [if_neg (by omega), B246_173, g11]; exact f
    · rw [if_neg hc] at f; rw [if_pos (by omega), B246_173, g01]; exact f
  · simp only [Sw_cons, Sw_nil, ite_not, bzF, bzT, if_true, if_false, ↓reduceIte, Int.reduceEq, Int.reduceLE, Int.reduceLT, Int.reduceNeg, ne_eq, not_true_eq_false, not_false_eq_true, and_self, and_true, true_and, and_false, false_and, eq_self, B246_174, K.k0]
    have b1 := O.mside (s := s) (O.pa s hs) (sh := 8) (by decide)
    have b2 := O.aside (s := s) (O.pa s hs) (sh := 8) (by decide)
    have di := dbt_iff (a := A.mside s (A.pa s) 8) (b := A.aside s (A.pa s) 8) (f := nm) b1.2.2.1 b2.2.2.1 hnm.1
    refine S218 K M O hs (by decide) ?_
    generalize eH : hset (hset h 138 26 (A.mside s (A.pa s) 8)) 138 27 (A.mside s (A.pa s) 8 + A.aside s (A.pa s) 8) = hH
    have k1 : ∀ c, c ≠ 138 → hH c = h c := fun c hc => by rw [← eH, hset_a _ _ _ hc, hset_a _ _ _ hc]
    have k2 : ∀ j, j ≠ 26 → j ≠ 27 → hH 138 j = h 138 j := fun j j1 j2 => by rw [← eH, hset_i _ _ j2, hset_i _ _ j1]
    have v1 : hH 138 26 = A.mside s (A.pa s) 8 := by rw [← eH, hset_i _ _ (by decide), hset_e]
    have v2 : hH 138 27 = A.mside s (A.pa s) 8 + A.aside s (A.pa s) 8 := by rw [← eH, hset_e]
    have f := fin2 (nm ≤ pmade (A.mside s (A.pa s) 8) (A.aside s (A.pa s) 8) 16) hH rfl (fun c c1 _ => k1 c c1) (fun j j1 j2 _ => k2 j j1 j2)
    have m1 : 0 ≤ nm * (A.mside s (A.pa s) 8 + A.aside s (A.pa s) 8) := Int.mul_nonneg hnm.1 (by omega)
    have m2 : nm * (A.mside s (A.pa s) 8 + A.aside s (A.pa s) 8) ≤ 9999 * 8589934592 := Int.mul_le_mul hnm.2 (by omega) (by omega) (by decide)
    rw [o0, List.nil_append, B246_181, ga K.k0, v1, v2]
    simp only [c64le, c64lt]
    rw [w64_id (x := 16 * A.mside s (A.pa s) 8) (by omega) (by omega), w64_id (by omega) (by omega)]
    by_cases hz : A.mside s (A.pa s) 8 + A.aside s (A.pa s) 8 ≤ 0
    · rw [if_neg (by rw [di]; omega)] at f
      rw [if_pos hz, B246_213, B246_214, g01]; exact f
    · rw [if_neg hz, ga K.k0, ga K.k0]
      by_cases hc : nm * (A.mside s (A.pa s) 8 + A.aside s (A.pa s) 8) ≤ 16 * A.mside s (A.pa s) 8
      · rw [if_pos (by rw [di]; exact ⟨by omega, hc⟩)] at f
        rw [if_neg (by omega), B246_214, g11]; exact f
      · rw [if_neg (by rw [di]; exact fun z => hc z.2)] at f
        rw [if_pos (by omega), B246_213, B246_214, g01]; exact f
  · have f := fin (A.cd s = nm) rfl
    simp only [Sw_cons, Sw_nil, ite_not, bzF, bzT, if_true, if_false, ↓reduceIte, Int.reduceEq, Int.reduceLE, Int.reduceLT, Int.reduceNeg, ne_eq, not_true_eq_false, not_false_eq_true, and_self, and_true, true_and, and_false, false_and, eq_self, B246_215, K.k0]
    rw [S205 K si (by decide), M.cd s hs, o1, List.cons_append, List.nil_append, B246_221]
    by_cases hc : A.cd s = nm
    · rw [if_pos hc] at f; rw [if_neg (fun z => z hc), B246_230, g11]; exact f
    · rw [if_neg hc] at f; rw [if_pos hc, B246_230, g01]; exact f
  · have e : A.say s (A.pa s) 10 nm = A.amb s A.ns.toNat := rfl
    rw [e] at hQ
    simp only [Sw_cons, Sw_nil, ite_not, bzF, bzT, if_true, if_false, ↓reduceIte, Int.reduceEq, Int.reduceLE, Int.reduceLT, Int.reduceNeg, ne_eq, not_true_eq_false, not_false_eq_true, and_self, and_true, true_and, and_false, false_and, eq_self, B246_231, K.k0]
    refine S245 K M O hs (fun h2 f2 t2 => ?_)
    have e2 : bz (A.amb s A.ns.toNat = true) = ((A.amb s A.ns.toNat).toNat : Int) := by
      cases A.amb s A.ns.toNat
      · exact bzf (by decide)
      · exact bzt rfl
    rw [o1, List.cons_append, List.nil_append, B246_236, ga bzr, e2]
    exact hQ h2 f2 (fun j _ _ j3 => t2 j j3)
end FLAGM
