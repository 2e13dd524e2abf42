/-! doubtful, on the class's side -/
def pmade (a b p : Int) : Int := if a + b ≤ 0 then -1 else a * p / (a + b)
theorem S148 {d : Nat} {g : KG} {h : KH} {Q : Option KV → KG → KH → Prop} {a b p : Int} (ha : 0 ≤ a ∧ a ≤ 4294967296) (hb : 0 ≤ b ∧ b ≤ 4294967296) (hp : 0 ≤ p ∧ p ≤ 4096) (hQ : Q (some (xL (pmade a b p))) g h) : Cl (d + 1) 148 [xL a, xL b, xI p] g h Q := by
  have m0 := Int.mul_nonneg ha.1 hp.1
  have m1 := Int.mul_le_mul ha.2 hp.2 hp.1 (by decide)
  unfold pmade at hQ
  simp (disch := omega) only [E148, B148_26, w64_id, c64gt]
  by_cases hz : a + b ≤ 0
  · rw [if_pos hz] at hQ
    rw [if_neg (by omega)]
    exact hQ
  · rw [if_neg hz] at hQ
    rw [if_pos (by omega), ga (by omega)]
    have d0 := Int.ediv_nonneg m0 (show 0 ≤ a + b by omega)
    have d1 := Int.ediv_le_self (a + b) m0
    rw [Int.tdiv_eq_ediv_of_nonneg m0, w64_id (by omega) (by omega)]
    exact hQ
def St.dbt (A : St) (s sh p : Int) : Int := pmade (A.mside s (A.pa s) sh) (A.aside s (A.pa s) sh) p
def St.dset (A : St) (sh f : Int) : Nat → Int
  | 0 => 0
  | n + 1 => if f ≤ A.dbt n sh 16 then or32 (A.dset sh f n) (shl32 1 n) else A.dset sh f n
def Wd.doubt (W : Wd) (sh f : Int) : Int × Int := if (0 ≤ sh ∧ sh ≤ 16) ∧ 0 ≤ f ∧ f ≤ 16 then (0, W.cur.dset sh f W.cur.ns.toNat) else (1, -1)
theorem C121 {W : Wd} {sh f : Int} : Ci 121 [xR 0, xI sh, xI f] 5 W (W.doubt sh f) := by
  intro g h C d Q hQ
  have C0 := C
  obtain ⟨l, r, l2, r2, C1, C2, C3, C4, C5, C6, C7⟩ := C
  have h16 := C7.O.ns
  have S := C7.S
  rw [E121, S146]
  have no : ¬ ((0 ≤ sh ∧ sh ≤ 16) ∧ 0 ≤ f ∧ f ≤ 16) → Rn (d + 4) 121 24 [xR 0, xI sh, xI f, xU, xU, xU, xU, xU, xU] [] g h Q := by
    intro z
    unfold Wd.doubt at hQ
    rw [if_neg z] at hQ
    simp only [E121, B121_9, B121_21, B121_24, B121_29, B121_67, B121_89, B121_100, B121_113, B121_124, o1, o0, List.cons_append, List.nil_append, ite_not, bzF, bzT, if_true, if_false, ↓reduceIte, Int.reduceEq, Int.reduceLE, Int.reduceLT, Int.reduceNeg, ne_eq, not_true_eq_false, not_false_eq_true, and_self, and_true, true_and, and_false, false_and, eq_self, C3.k0, C3.p4, C7.S.k0, C7.S.pl, C7.S.pr, C7.S.ns, C7.S.L.k0, C7.S.L.p2, C7.S.L.p3, C7.S.L.p4, C7.S.L.k2, C7.S.L.l2, C7.S.L.nq, C7.S.L.nd, C7.S.L.wk, C7.S.L.ca, C7.S.L.cm, C7.S.R.k0, C7.S.R.nr, C7.S.L.tl.k0, C7.S.L.tm.k0, true_and, S133 (k := C3.k0), S134 (k := C3.k0), S135 (k := C3.k0), S136 (k := C3.k0)]
    exact cst C0 hQ
  by_cases h1 : 0 ≤ sh ∧ sh ≤ 16
  · rw [bzt h1]
    simp only [B121_9, o1, o0, List.cons_append, List.nil_append, ite_not, bzF, bzT, if_true, if_false, ↓reduceIte, Int.reduceEq, Int.reduceLE, Int.reduceLT, Int.reduceNeg, ne_eq, not_true_eq_false, not_false_eq_true, and_self, and_true, true_and, and_false, false_and, eq_self, S146]
    by_cases h2 : 0 ≤ f ∧ f ≤ 16
    · rw [bzt h2]
      unfold Wd.doubt at hQ
      rw [if_pos ⟨h1, h2⟩] at hQ
      simp only [B121_21, o1, o0, List.cons_append, List.nil_append, ite_not, bzF, bzT, if_true, if_false, ↓reduceIte, Int.reduceEq, Int.reduceLE, Int.reduceLT, Int.reduceNeg, ne_eq, not_true_eq_false, not_false_eq_true, and_self, and_true, true_and, and_false, false_and, eq_self]
      have lp : ∀ n i : Nat, i + n = W.cur.ns.toNat → ∀ a5 a7 : KV, Rn (d + 4) 121 35 [xR 0, xI sh, xI f, xI (W.cur.dset sh f i), xI (i : Int), a5, xU, a7, xU] [] g h Q := by
        intro n
        induction n with
        | zero =>
          intro i hi a5 a7
          have hi : i = W.cur.ns.toNat := by omega
          simp only [B121_35, C3.k0, C3.p4, C7.S.k0, C7.S.pl, C7.S.pr, C7.S.ns, C7.S.L.k0, C7.S.L.p2, C7.S.L.p3, C7.S.L.p4, C7.S.L.k2, C7.S.L.l2, C7.S.L.nq, C7.S.L.nd, C7.S.L.wk, C7.S.L.ca, C7.S.L.cm, C7.S.R.k0, C7.S.R.nr, C7.S.L.tl.k0, C7.S.L.tm.k0, true_and]
          rw [if_pos (by omega), hi]
          simp only [S133 (k := C3.k0), S134 (k := C3.k0), S135 (k := C3.k0), S136 (k := C3.k0), o1, o0, List.cons_append, List.nil_append, B121_124]
          exact cst C0 hQ
        | succ n ih =>
          intro i hi a5 a7
          have hs : ins W.cur i := ⟨by omega, by omega⟩
          have hp := C7.O.pa i hs
          have b1 := C7.O.mside (s := i) hp h1
          have b2 := C7.O.aside (s := i) hp h1
          have e1 : ((i : Int) + 1) = ((i + 1 : Nat) : Int) := by omega
          have ih := ih (i + 1) (by omega)
          unfold St.dset at ih
          simp only [B121_35, C3.k0, C3.p4, C7.S.k0, C7.S.pl, C7.S.pr, C7.S.ns, C7.S.L.k0, C7.S.L.p2, C7.S.L.p3, C7.S.L.p4, C7.S.L.k2, C7.S.L.l2, C7.S.L.nq, C7.S.L.nd, C7.S.L.wk, C7.S.L.ca, C7.S.L.cm, C7.S.R.k0, C7.S.R.nr, C7.S.L.tl.k0, C7.S.L.tm.k0, true_and]
          rw [if_neg (by omega)]
          simp (disch := omega) only [S.n7, S.m27, S.w27, S.v27 i hs, true_and, ga]
          refine S56 S C7.O hs hp h1 ?_
          simp (disch := omega) only [o1, o0, List.cons_append, List.nil_append, B121_67, C3.k0, C3.p4, C7.S.k0, C7.S.pl, C7.S.pr, C7.S.ns, C7.S.L.k0, C7.S.L.p2, C7.S.L.p3, C7.S.L.p4, C7.S.L.k2, C7.S.L.l2, C7.S.L.nq, C7.S.L.nd, C7.S.L.wk, C7.S.L.ca, C7.S.L.cm, C7.S.R.k0, C7.S.R.nr, C7.S.L.tl.k0, C7.S.L.tm.k0, true_and, S.n7, S.m27, S.w27, S.v27 i hs, ga]
          refine S57 S C7.O hs hp h1 ?_
          simp only [o1, o0, List.cons_append, List.nil_append, B121_89]
          refine S148 b1.2.2 b2.2.2 (by decide) ?_
          simp only [o1, o0, List.cons_append, List.nil_append, B121_100, c64lt]
          rw [show pmade (W.cur.mside i (W.cur.pa i) sh) (W.cur.aside i (W.cur.pa i) sh) 16 = W.cur.dbt i sh 16 from rfl]
          by_cases hf : f ≤ W.cur.dbt i sh 16
          · rw [if_pos hf] at ih
            rw [if_neg (by omega), ga (by omega), B121_113, w32_id (by omega) (by omega), e1]
            exact ih _ _
          · rw [if_neg hf] at ih
            rw [if_pos (by omega), B121_113, w32_id (by omega) (by omega), e1]
            exact ih _ _
      exact lp W.cur.ns.toNat 0 (by omega) _ _
    · rw [bzf h2]
      simp only [B121_21, o1, o0, List.cons_append, List.nil_append, ite_not, bzF, bzT, if_true, if_false, ↓reduceIte, Int.reduceEq, Int.reduceLE, Int.reduceLT, Int.reduceNeg, ne_eq, not_true_eq_false, not_false_eq_true, and_self, and_true, true_and, and_false, false_and, eq_self]
      exact no (fun z => h2 z.2)
  · rw [bzf h1]
    simp only [B121_9, o1, o0, List.cons_append, List.nil_append, ite_not, bzF, bzT, if_true, if_false, ↓reduceIte, Int.reduceEq, Int.reduceLE, Int.reduceLT, Int.reduceNeg, ne_eq, not_true_eq_false, not_false_eq_true, and_self, and_true, true_and, and_false, false_and, eq_self]
    exact no (fun z => h1 z.1)
