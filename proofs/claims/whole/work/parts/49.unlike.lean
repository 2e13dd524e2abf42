/-! unlike -/
def St.news (A : St) (k : Int) : Nat → Int
  | 0 => 0
  | n + 1 => A.news k n + (if A.ask n = k ∧ A.rep n n = false then 1 else 0)
theorem St.news_r (A : St) (k : Int) : ∀ n : Nat, 0 ≤ A.news k n ∧ A.news k n ≤ n := by
  intro n
  induction n with
  | zero => exact ⟨Int.le_refl _, Int.le_refl _⟩
  | succ n ih =>
    unfold St.news
    split <;> omega
theorem St.rep_up (A : St) (s : Int) (m k : Nat) (hk : k ≤ m) (hr : A.rep s k = true) : A.rep s m = true := by
  unfold St.rep at hr ⊢
  rw [List.any_eq_true] at hr ⊢
  obtain ⟨x, hx, hp⟩ := hr
  exact ⟨x, List.mem_range.mpr (Nat.lt_of_lt_of_le (List.mem_range.mp hx) hk), hp⟩
def Wd.unlike (W : Wd) (k : Int) : Int × Int := if 0 ≤ k ∧ k ≤ 3 then (0, W.cur.news k W.cur.ns.toNat) else (1, -1)
theorem C120 {W : Wd} {k : Int} : Ci 120 [xR 0, xI k] 3 W (W.unlike k) := by
  intro g h C d Q hQ
  have C0 := C
  obtain ⟨l, r, l2, r2, C1, C2, C3, C4, C5, C6, C7⟩ := C
  have h16 := C7.O.ns
  have S := C7.S
  rw [E120, S145]
  unfold Wd.unlike at hQ
  by_cases hk : 0 ≤ k ∧ k ≤ 3
  · rw [if_pos hk] at hQ
    rw [bzt hk]
    simp only [B120_4, o1, o0, List.cons_append, List.nil_append, ite_not, bzF, bzT, if_true, if_false, ↓reduceIte, Int.reduceEq, Int.reduceLE, Int.reduceLT, Int.reduceNeg, ne_eq, not_true_eq_false, not_false_eq_true, and_self, and_true, true_and, and_false, false_and, eq_self]
    have lp : ∀ n i : Nat, i + n = W.cur.ns.toNat → Rn (d + 2) 120 17 [xR 0, xI k, xI (W.cur.news k i), xI (i : Int)] [] g h Q := by
      intro n
      induction n with
      | zero =>
        intro i hi
        have hi : i = W.cur.ns.toNat := by omega
        simp only [B120_17, C3.k0, C3.p4, C7.S.k0, C7.S.pl, C7.S.pr, C7.S.ns, C7.S.L.k0, C7.S.L.p2, C7.S.L.p3, C7.S.L.p4, C7.S.L.k2, C7.S.L.l2, C7.S.L.nq, C7.S.L.nd, C7.S.L.wk, C7.S.L.ca, C7.S.L.cm, C7.S.R.k0, C7.S.R.nr, C7.S.L.tl.k0, C7.S.L.tm.k0, true_and]
        rw [if_pos (by omega), hi]
        simp only [S133 (k := C3.k0), S134 (k := C3.k0), S135 (k := C3.k0), S136 (k := C3.k0), o1, o0, List.cons_append, List.nil_append, B120_66]
        exact cst C0 hQ
      | succ n ih =>
        intro i hi
        have hs : ins W.cur i := ⟨by omega, by omega⟩
        have b := W.cur.news_r k i
        have ih := ih (i + 1) (by omega)
        have e1 : ((i : Int) + 1) = ((i + 1 : Nat) : Int) := by omega
        unfold St.news at ih
        simp only [B120_17, C3.k0, C3.p4, C7.S.k0, C7.S.pl, C7.S.pr, C7.S.ns, C7.S.L.k0, C7.S.L.p2, C7.S.L.p3, C7.S.L.p4, C7.S.L.k2, C7.S.L.l2, C7.S.L.nq, C7.S.L.nd, C7.S.L.wk, C7.S.L.ca, C7.S.L.cm, C7.S.R.k0, C7.S.R.nr, C7.S.L.tl.k0, C7.S.L.tm.k0, true_and]
        rw [if_neg (by omega)]
        simp (disch := omega) only [S.n3, S.m23, S.w23, S.v23 i hs, true_and, ga, ite_not, bzF, bzT, if_true, if_false, ↓reduceIte, Int.reduceEq, Int.reduceLE, Int.reduceLT, Int.reduceNeg, ne_eq, not_true_eq_false, not_false_eq_true, and_self, and_true, true_and, and_false, false_and, eq_self]
        by_cases ha : W.cur.ask i = k
        · rw [if_pos ha]
          refine S54 S C7.O hs ?_
          simp only [o1, o0, List.cons_append, List.nil_append, B120_49]
          rw [show ((i : Int)).toNat = i from Int.toNat_natCast i]
          cases hr : W.cur.rep i i with
          | true =>
            rw [hr, if_neg (fun z => by cases z.2), Int.add_zero] at ih
            rw [bzt rfl, if_pos (by decide), B120_55, w32_id (by omega) (by omega), e1]
            exact ih
          | false =>
            rw [hr, if_pos ⟨ha, rfl⟩] at ih
            rw [bzf (by decide), if_neg (by decide), B120_55, w32_id (by omega) (by omega), w32_id (by omega) (by omega), e1]
            exact ih
        · rw [if_neg (fun z => ha z.1), Int.add_zero] at ih
          rw [if_neg ha, B120_55, w32_id (by omega) (by omega), e1]
          exact ih
    exact lp W.cur.ns.toNat 0 (by omega)
  · rw [if_neg hk] at hQ
    rw [bzf hk]
    simp only [E120, B120_4, B120_12, B120_49, B120_55, B120_66, o1, o0, List.cons_append, List.nil_append, ite_not, bzF, bzT, if_true, if_false, ↓reduceIte, Int.reduceEq, Int.reduceLE, Int.reduceLT, Int.reduceNeg, ne_eq, not_true_eq_false, not_false_eq_true, and_self, and_true, true_and, and_false, false_and, eq_self, C3.k0, C3.p4, C7.S.k0, C7.S.pl, C7.S.pr, C7.S.ns, C7.S.L.k0, C7.S.L.p2, C7.S.L.p3, C7.S.L.p4, C7.S.L.k2, C7.S.L.l2, C7.S.L.nq, C7.S.L.nd, C7.S.L.wk, C7.S.L.ca, C7.S.L.cm, C7.S.R.k0, C7.S.R.nr, C7.S.L.tl.k0, C7.S.L.tm.k0, true_and, S133 (k := C3.k0), S134 (k := C3.k0), S135 (k := C3.k0), S136 (k := C3.k0)]
    exact cst C0 hQ
theorem C243 {W : Wd} {k : Int} : Mi 243 [xR 138, xI k] 4 W (W.unlike k) := by
  intro g h C O d Q hQ
  have K := C.1
  have M := C.2.2.cur
  have h16 := O.ns
  have hn := O.nq
  have g2 : gK g 139 = 20 ∧ 0 ≤ (2 : Int) ∧ (2 : Int) < gL g 139 := ⟨K.kat, by decide, by rw [K.lat]; decide⟩
  rw [E243, S202]
  unfold Wd.unlike at hQ
  by_cases hk : 0 ≤ k ∧ k ≤ 3
  · rw [if_pos hk] at hQ
    rw [bzt hk]
    simp only [B243_5, o1, o0, List.cons_append, List.nil_append, ite_not, bzF, bzT, if_true, if_false, ↓reduceIte, Int.reduceEq, Int.reduceLE, Int.reduceLT, Int.reduceNeg, ne_eq, not_true_eq_false, not_false_eq_true, and_self, and_true, true_and, and_false, false_and, eq_self]
    have lp : ∀ n i : Nat, i + n = W.cur.ns.toNat → ∀ a4 a5 : KV, Rn (d + 3) 243 18 [xR 138, xI k, xI (W.cur.news k i), xI (i : Int), a4, a5] [] g h Q := by
      intro n
      induction n with
      | zero =>
        intro i hi a4 a5
        have hi : i = W.cur.ns.toNat := by omega
        rw [B243_18, ga K.k0, K.pat, ga g2, M.ns, if_pos (by omega), hi]
        simp only [S160 (k := K.k0), S161 (k := K.k0), S162 (k := K.k0), o1, o0, List.cons_append, List.nil_append, B243_117, K.k0, true_and]
        exact mst C hQ
      | succ n ih =>
        intro i hi a4 a5
        have hs : ins W.cur i := ⟨by omega, by omega⟩
        have b := W.cur.news_r k i
        have ih := ih (i + 1) (by omega)
        have e1 : ((i : Int) + 1) = ((i + 1 : Nat) : Int) := by omega
        unfold St.news at ih
        rw [B243_18, ga K.k0, K.pat, ga g2, M.ns, if_neg (by omega), ga K.k0, S205 K ⟨by omega, by omega⟩ (by decide), M.ask i hs]
        simp only [o1, o0, List.cons_append, List.nil_append, B243_34, B243_43]
        have fin0 : ∀ o : Int, ¬ (W.cur.ask i = k ∧ W.cur.rep i i = false) → Rn (d + 3) 243 93 [xR 138, xI k, xI (W.cur.news k i), xI (i : Int), xI 0, xI o] [] g h Q := by
          intro o z
          rw [if_neg z] at ih
          rw [B243_93, if_pos rfl, B243_104, w32_id (by omega) (by omega), w32_id (by omega) (by omega), e1]
          exact ih _ _
        by_cases ha : W.cur.ask i = k
        · rw [if_neg (fun z => z ha)]
          have il : ∀ m o : Nat, o + m = i → W.cur.rep i o = false → Rn (d + 3) 243 48 [xR 138, xI k, xI (W.cur.news k i), xI (i : Int), xI 1, xI (o : Int)] [] g h Q := by
            intro m
            induction m with
            | zero =>
              intro o ho hr
              have ho : o = i := by omega
              subst ho
              rw [if_pos ⟨ha, hr⟩] at ih
              rw [B243_48, if_pos (by omega), B243_93, if_neg (by decide), B243_104, w32_id (by omega) (by omega), w32_id (by omega) (by omega), e1]
              exact ih _ _
            | succ m ihm =>
              intro o ho hr
              have hio : ins W.cur o := ⟨by omega, by omega⟩
              have e2 : ((o : Int) + 1) = ((o + 1 : Nat) : Int) := by omega
              have hx := W.cur.rep_s i o
              rw [hr, Bool.false_or] at hx
              have b2 := dif_r (W.cur.pa i) (W.cur.pa o) W.cur.nq.toNat
              have hd := W.cur.row_dif O (O.pa i hs) (O.pa o hio)
              rw [B243_48, if_neg (by omega), if_neg (by decide), ga K.k0, S205 K ⟨by omega, by omega⟩ (by decide), M.ask o hio]
              simp only [o1, o0, List.cons_append, List.nil_append, B243_66]
              by_cases hb : W.cur.ask o = k
              · rw [if_neg (fun z => z hb), ga K.k0]
                refine S229 K M O hs hio ?_
                simp only [o1, o0, List.cons_append, List.nil_append, B243_77]
                by_cases hp : W.cur.pa i = W.cur.pa o
                · rw [if_pos (by rw [hd.mpr hp]; decide), B243_85, w32_id (by omega) (by omega), e2]
                  rw [decide_eq_true ⟨by rw [hb, ha], hp.symm⟩] at hx
                  have no : ¬ (W.cur.ask i = k ∧ W.cur.rep i i = false) := fun z => by
                    rw [W.cur.rep_up i i (o + 1) (by omega) hx] at z
                    cases z.2
                  rw [B243_48]
                  by_cases hz : (i : Int) ≤ ((o + 1 : Nat) : Int)
                  · rw [if_pos hz]; exact fin0 _ no
                  · rw [if_neg hz, if_pos rfl]; exact fin0 _ no
                · rw [decide_eq_false (fun z => hp z.2.symm)] at hx
                  have nz : ¬ dif (W.cur.pa i) (W.cur.pa o) W.cur.nq.toNat = 0 := fun z => hp (hd.mp z)
                  rw [if_neg (by omega), B243_80, B243_85, w32_id (by omega) (by omega), e2]
                  exact ihm (o + 1) (by omega) hx
              · rw [decide_eq_false (fun z => hb (by rw [z.1, ha]))] at hx
                rw [if_pos hb, B243_80, B243_85, w32_id (by omega) (by omega), e2]
                exact ihm (o + 1) (by omega) hx
          exact il i 0 (by omega) rfl
        · rw [if_pos ha]
          have no : ¬ (W.cur.ask i = k ∧ W.cur.rep i i = false) := fun z => ha z.1
          rw [B243_48]
          by_cases hz : (i : Int) ≤ 0
          · rw [if_pos hz]; exact fin0 _ no
          · rw [if_neg hz, if_pos rfl]; exact fin0 _ no
    exact lp W.cur.ns.toNat 0 (by omega) _ _
  · rw [if_neg hk] at hQ
    rw [bzf hk]
    simp only [E243, B243_5, B243_13, B243_34, B243_43, B243_66, B243_77, B243_80, B243_85, B243_93, B243_104, B243_117, o1, o0, List.cons_append, List.nil_append, ite_not, bzF, bzT, if_true, if_false, ↓reduceIte, Int.reduceEq, Int.reduceLE, Int.reduceLT, Int.reduceNeg, ne_eq, not_true_eq_false, not_false_eq_true, and_self, and_true, true_and, and_false, false_and, eq_self, K.k0, S160 (k := K.k0), S161 (k := K.k0), S162 (k := K.k0)]
    exact mst C hQ
