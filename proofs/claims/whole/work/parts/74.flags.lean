/-! flagged, on the class's side -/
theorem stc_r {op : Int} (h : 1 ≤ op ∧ op ≤ 10) : 0 ≤ stc op ∧ stc op < 16 := by unfold stc; split <;> (try split) <;> (try split) <;> omega
theorem code_lo {n s : Int} (hn : 0 ≤ n ∧ n ≤ 9999) (hs : 0 ≤ s ∧ s < 16) : and32 (n * 16 + s) 15 = s := by
  obtain ⟨a, ha⟩ : ∃ a : Nat, n * 16 + s = a := ⟨(n * 16 + s).toNat, by omega⟩
  rw [ha, and_n (b := 15) 15 (by omega) (by decide), and15]
  omega
theorem code_hi {n s : Int} (hn : 0 ≤ n ∧ n ≤ 9999) (hs : 0 ≤ s ∧ s < 16) : shr32 (n * 16 + s) 4 = n := by
  unfold shr32
  show (n * 16 + s) / 16 = n
  omega
section FLAGS
variable {g : KG} {h : KH} {l r : Int} {A : St} {d : Nat} {Q : Option KV → KG → KH → Prop}
theorem S13 (J : CJ g h) (S : SR g h 6 l r A) (hr : 0 ≤ r) (O : A.Ok) {s p u : Int} (hu : 0 ≤ u ∧ u < A.nr) (V : JV h A s) (P : JP h A s p) (hQ : Q (some (xI (bz (A.flg s p u = true)))) g h) : Cl (d + 2) 13 [xR 35, xI u] g h Q := by
  have hn := O.nr
  have D := O.dp u hu.1 hu.2
  have R := O.rsp.2.2 u hu.1 (by omega)
  have R2 := O.rsp.2.2 (u + 1) (by omega) (by omega)
  have rm := O.rsm
  have ru := O.rs u hu.1 hu.2
  have e0 := S.R.rs u hu.1 (by omega)
  have e1 := S.R.rs (u + 1) (by omega) (by omega)
  have lp : ∀ n k : Nat, A.rs u + (k + n : Nat) = A.rs (u + 1) → ∀ x : KV, Rn (d + 1) 13 18 [xR 35, xI u, xR r, xL (vl (A.evl s p (A.rs u) k) : Int), xU, xI (A.rs u + k), x] [] g h Q := by
    intro n
    induction n with
    | zero =>
      intro k hk x
      have ek : (A.rs (u + 1) - A.rs u).toNat = k := by omega
      have len := evl_len O s p hu k (by omega)
      rw [show A.rs u + (k : Int) = A.rs (u + 1) by omega, D.2.1] at len
      unfold St.flg at hQ
      rw [ek] at hQ
      rw [B13_18, ga S.R.k0, S.R.p2, w32_id (by omega) (by omega), ga ⟨S.R.k1, by omega, by rw [S.R.l1]; omega⟩, e1, if_pos (by omega)]
      generalize A.evl s p (A.rs u) k = L at *
      cases L with
      | nil => simp only [List.length_nil] at len; omega
      | cons b t =>
        cases t with
        | cons b2 t2 => simp only [List.length_cons] at len; omega
        | nil =>
          rw [vl_and1 b (t := []) (show 1 ≤ 42 by decide)]
          simp only [c64eq, ne_eq]
          cases b
          · rw [if_pos (by decide), B13_155, g01]
            rw [bzf (show ¬ [false].headD false = true by decide)] at hQ; exact hQ
          · rw [if_neg (by decide), B13_155, g11]
            rw [bzt (show [true].headD false = true from rfl)] at hQ; exact hQ
    | succ n ih =>
      intro k hk x
      have nx := fun y => ih (k + 1) (by omega) y
      obtain ⟨d1, d2, d3, d4, d5⟩ := D.2.2 (A.rs u + k) (by omega) (by omega)
      have o := O.op (A.rs u + k) (by omega) (by omega)
      have len := evl_len O s p hu k (by omega)
      have ec := S.R.cd (A.rs u + k) (by omega) (by omega)
      have sr := stc_r (op := A.op (A.rs u + k)) ⟨o.1, o.2.1⟩
      have en : A.rs u + ((k + 1 : Nat) : Int) = A.rs u + k + 1 := by omega
      rw [St.evl, en] at nx
      rw [B13_18, ga S.R.k0, S.R.p2, w32_id (by omega) (by omega), ga ⟨S.R.k1, by omega, by rw [S.R.l1]; omega⟩, e1, if_neg (by omega), ga S.R.k0, S.R.p3, ga ⟨S.R.k2, by omega, by rw [S.R.l2]; omega⟩, ec, code_lo ⟨o.2.2.1, o.2.2.2⟩ sr, code_hi ⟨o.2.2.1, o.2.2.2⟩ sr]
      generalize A.evl s p (A.rs u) k = L at *
      by_cases h1 : 3 < A.op (A.rs u + k)
      · have es : stc (A.op (A.rs u + k)) = A.op (A.rs u + k) - 3 := by unfold stc; rw [if_neg (by omega), if_neg (by omega), if_neg (by omega)]
        simp only [stq, if_pos h1] at nx
        rw [es, if_pos (by omega), if_pos (by omega), if_pos (by omega), ga (by decide), ga S.R.k0, ga ⟨S.R.k2, by omega, by rw [S.R.l2]; omega⟩, ga (by decide), ga J.k35]
        refine S14 J V P (by omega) ?_
        rw [o1, List.cons_append, List.nil_append, B13_125]
        have pu := fun b => vl_push (b := b) (t := L) (by omega)
        generalize A.say s p (A.op (A.rs u + k)) (A.nm (A.rs u + k)) = b at *
        cases b
        · rw [if_pos (by decide), B13_133, B13_136, w32_id (by omega) (by omega), show (0 : Int) = ((false.toNat : Nat) : Int) from rfl, pu]
          exact nx _
        · rw [if_neg (by decide), B13_133, B13_136, w32_id (by omega) (by omega), show or64 (shl64 (vl L : Int) 1) 1 = or64 (shl64 (vl L : Int) 1) ((true.toNat : Nat) : Int) from rfl, pu]
          exact nx _
      · by_cases h2 : A.op (A.rs u + k) = 3
        · have es : stc (A.op (A.rs u + k)) = 8 := by unfold stc; rw [if_neg (by omega), if_neg (by omega), if_pos h2]
          have := d4 h2
          cases L with
          | nil => simp only [List.length_nil] at len; omega
          | cons b t =>
            simp only [stq, if_neg h1, if_pos h2] at nx
            rw [es, if_neg (by decide), B13_136, vl_not (by simp only [List.length_cons] at len ⊢; omega), w32_id (by omega) (by omega)]
            exact nx _
        · have := d5 (by omega)
          cases L with
          | nil => simp only [List.length_nil] at len; omega
          | cons b t =>
            cases t with
            | nil => simp only [List.length_cons, List.length_nil] at len; omega
            | cons c t =>
              have l1 : (b :: c :: t).length ≤ 42 := by simp only [List.length_cons] at len ⊢; omega
              have l2 : (c :: t).length ≤ 41 := by simp only [List.length_cons] at len ⊢; omega
              simp only [stq, if_neg h1, if_neg h2] at nx
              by_cases h3 : A.op (A.rs u + k) = 2
              · have es : stc (A.op (A.rs u + k)) = 9 := by unfold stc; rw [if_neg (by omega), if_pos h3]
                simp only [if_pos h3] at nx
                rw [es, if_pos (by decide), if_neg (by decide), vl_and1 b l1, vl_shr]
                simp only [c64eq, ne_eq]
                cases b
                · rw [if_pos (by decide), ga (by decide), B13_85, B13_136, vl_clr l2, w32_id (by omega) (by omega)]
                  rw [Bool.and_false] at nx
                  exact nx _
                · rw [if_neg (by decide), ga (by decide), B13_85, B13_136, w32_id (by omega) (by omega)]
                  rw [Bool.and_true] at nx
                  exact nx _
              · have es : stc (A.op (A.rs u + k)) = 10 := by unfold stc; rw [if_pos (by omega)]
                simp only [if_neg h3] at nx
                rw [es, if_pos (by decide), if_pos (by decide), if_neg (by decide), ga (by decide), vl_and1 b l1, vl_shr, vl_or l2, B13_136, w32_id (by omega) (by omega)]
                exact nx _
  have hl : r + 1 = r + 1 := rfl
  rw [E13, ga J.k35, J.p35, ga S.k0, S.pr, ga hr, ga S.R.k0, S.R.p2, ga ⟨S.R.k1, by omega, by rw [S.R.l1]; omega⟩, e0]
  have z := lp (A.rs (u + 1) - A.rs u).toNat 0 (by omega) xU
  rw [show A.rs u + ((0 : Nat) : Int) = A.rs u by omega] at z
  exact z
/-- the sheets that a rule flags -/
def St.fset (A : St) (u : Int) : Nat → Int
  | 0 => 0
  | n + 1 => if A.flg n (A.pa n) u = true then or32 (A.fset u n) (shl32 1 n) else A.fset u n
theorem fset_r (A : St) (u : Int) : ∀ n : Nat, -2147483648 ≤ A.fset u n ∧ A.fset u n ≤ 2147483647 := by
  intro n
  induction n with
  | zero => exact ⟨by show (-2147483648 : Int) ≤ 0; decide, by show (0 : Int) ≤ 2147483647; decide⟩
  | succ n ih =>
    unfold St.fset
    split
    · exact or32_r _ _
    · exact ih
theorem S8 (J : CJ g h) (S : SR g h 6 l r A) (hl : l = 7 ∨ l = 39) (hr : r = 20 ∨ r = 52) (O : A.Ok) {u : Int} (hu : 0 ≤ u ∧ u < A.nr) (hQ : ∀ h2 : KH, (∀ c, c ≠ 35 → h2 c = h c) → h2 35 0 = 6 → Q (some (xI (A.fset u A.ns.toNat))) g h2) : Cl (d + 6) 8 [xR 35, xI u] g h Q := by
  have h16 := O.ns
  have lp : ∀ n k : Nat, k + n = A.ns.toNat → ∀ h1 : KH, (∀ c, c ≠ 35 → h1 c = h c) → h1 35 0 = 6 → Rn (d + 5) 8 4 [xR 35, xI u, xI (A.fset u k), xI (k : Int)] [] g h1 Q := by
    intro n
    induction n with
    | zero =>
      intro k hk h1 q1 q2
      have hk : k = A.ns.toNat := by omega
      rw [B8_4, ga J.k35, q2, ga S.k0, q1 6 (by decide), S.ns, if_pos (by omega), hk]
      exact hQ h1 q1 q2
    | succ n ih =>
      intro k hk h1 q1 q2
      have hi : ins A k := ⟨by omega, by omega⟩
      have e1 : ((k : Int) + 1) = ((k + 1 : Nat) : Int) := by omega
      have S1 : SR g h1 6 l r A := S.now hl hr (fun c _ _ _ => q1 c (by omega))
      rw [B8_4, ga J.k35, q2, ga S.k0, q1 6 (by decide), S.ns, if_neg (by omega), ga J.k35]
      refine S11 ⟨J.k35, q2⟩ S1 hl hr O hi (fun h2 V2 f2 g2 => ?_)
      have S2 : SR g h2 6 l r A := S1.now hl hr (fun c _ _ _ => f2 c (by omega))
      rw [o0, List.nil_append, B8_20, ga J.k35, g2, ga S.k0, S2.n7, ga ⟨S.m27, by omega, by rw [S.w27]; omega⟩, S2.v27 k hi, ga J.k35]
      refine S12 ⟨J.k35, g2⟩ S2 hl hr O hi (O.pa k hi) V2 (fun h3 V3 P3 f3 g3 => ?_)
      have S3 : SR g h3 6 l r A := S2.now hl hr (fun c _ _ _ => f3 c (by omega))
      rw [o0, List.nil_append, B8_33, ga J.k35]
      refine S13 ⟨J.k35, g3⟩ S3 (by omega) O hu V3 P3 ?_
      rw [o1, List.cons_append, List.nil_append, B8_38]
      have nx := ih (k + 1) (by omega) h3 (fun c hc => by rw [f3 c hc, f2 c hc, q1 c hc]) g3
      rw [St.fset] at nx
      by_cases hf : A.flg k (A.pa k) u = true
      · rw [if_pos hf] at nx
        rw [bzt hf, if_neg (by decide), ga (by omega), B8_47, w32_id (by omega) (by omega), e1]
        exact nx
      · rw [if_neg hf] at nx
        rw [bzf hf, if_pos rfl, B8_47, w32_id (by omega) (by omega), e1]
        exact nx
  rw [E8]
  exact lp A.ns.toNat 0 (by omega) h (fun _ _ => rfl) J.p35
end FLAGS
def Wd.flagged (W : Wd) (u : Int) : Int × Int := if 0 ≤ u ∧ u < W.cur.nr then (0, W.cur.fset u W.cur.ns.toNat) else (1, -1)
theorem C122 {W : Wd} {u : Int} : Ci 122 [xR 0, xI u] 7 W (W.flagged u) := by
  intro g h C d Q hQ
  have C0 := C
  obtain ⟨l, r, l2, r2, C1, C2, C3, C4, C5, C6, C7⟩ := C
  unfold Wd.flagged at hQ
  rw [E122, ga C3.k0, S144 C3 C7]
  by_cases hu : 0 ≤ u ∧ u < W.cur.nr
  · rw [if_pos hu] at hQ
    have hl : l = 7 ∨ l = 39 := by have := C7.l; omega
    have hr : r = 20 ∨ r = 52 := by have := C7.r; omega
    rw [bzt hu, o1, List.cons_append, List.nil_append, B122_5, if_neg (by decide), ga C3.k0, C3.p7, ga C2.k35]
    refine S8 C2 C7.S hl hr C7.O hu (fun h2 f2 g2 => ?_)
    rw [o1, List.cons_append, List.nil_append, B122_17, ga C3.k0]
    simp only [S133 (k := C3.k0), S134 (k := C3.k0), S135 (k := C3.k0), S136 (k := C3.k0), o1, o0, List.cons_append, List.nil_append, B122_20, B122_28]
    exact hQ _ (C0.st (fun c c0 c1 hq => by unfold qc at hq; rw [hset_a _ _ _ (by omega), f2 c (by omega)]) (fun j hj => by rw [hset_i _ _ hj, f2 0 (by decide)]) (by rw [hset_a _ _ _ (by decide), g2, C2.p35]) (hset_e _ _ _ _)) (fun c hc => by rw [hset_a _ _ _ (by omega), f2 c (by omega)])
  · rw [if_neg hu] at hQ
    rw [bzf hu, o1, List.cons_append, List.nil_append, B122_5, if_pos rfl, ga C3.k0]
    simp only [S133 (k := C3.k0), S134 (k := C3.k0), S135 (k := C3.k0), S136 (k := C3.k0), o1, o0, List.cons_append, List.nil_append, B122_28]
    exact cst C0 hQ
