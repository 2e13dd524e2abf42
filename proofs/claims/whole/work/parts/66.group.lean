/-! number, group -/
theorem ushr_0 {n a : Int} (hn : 0 ≤ n ∧ n ≤ 16) (ha : 0 ≤ a ∧ a ≤ 2147483647) : (ushr32 a n = 0) = (a ≤ w32 (shl32 1 n - 1)) := by
  have : n = 0 ∨ n = 1 ∨ n = 2 ∨ n = 3 ∨ n = 4 ∨ n = 5 ∨ n = 6 ∨ n = 7 ∨ n = 8 ∨ n = 9 ∨ n = 10 ∨ n = 11 ∨ n = 12 ∨ n = 13 ∨ n = 14 ∨ n = 15 ∨ n = 16 := by omega
  rcases this with rfl | rfl | rfl | rfl | rfl | rfl | rfl | rfl | rfl | rfl | rfl | rfl | rfl | rfl | rfl | rfl | rfl <;> (simp [ushr32, shl32, w32]; omega)
theorem all_r {n : Int} (hn : 0 ≤ n ∧ n ≤ 16) : 0 ≤ w32 (shl32 1 n - 1) ∧ w32 (shl32 1 n - 1) ≤ 65535 := by
  have : n = 0 ∨ n = 1 ∨ n = 2 ∨ n = 3 ∨ n = 4 ∨ n = 5 ∨ n = 6 ∨ n = 7 ∨ n = 8 ∨ n = 9 ∨ n = 10 ∨ n = 11 ∨ n = 12 ∨ n = 13 ∨ n = 14 ∨ n = 15 ∨ n = 16 := by omega
  rcases this with rfl | rfl | rfl | rfl | rfl | rfl | rfl | rfl | rfl | rfl | rfl | rfl | rfl | rfl | rfl | rfl | rfl <;> decide
theorem popc_1 {v : Int} (h0 : 0 < v) (h1 : v < 65536) : 0 < popc v := by
  have z := kern 16 v.toNat (by omega) (by show _ < 65536; omega)
  unfold popc
  omega
def Wd.number (W : Wd) (q a s : Int) : Wd × Int := if ((0 ≤ q ∧ q < W.cur.nq) ∧ 0 ≤ a ∧ a < W.cur.ch q) ∧ 0 ≤ s ∧ s ≤ w32 (shl32 1 W.cur.ns - 1) then (if s = 0 then (W.st 6, 0) else W.frac (W.cur.cnt q a s W.cur.ns.toNat) (popc s)) else (W.st 1, 0)
theorem C118 {W : Wd} {q a s : Int} (hs2 : s ≤ 2147483647) : Cw 118 [xR 0, xI q, xI a, xI s] 4 W (W.number q a s) := by
  intro g h C d Q hQ
  have C0 := C
  obtain ⟨l, r, l2, r2, C1, C2, C3, C4, C5, C6, C7⟩ := C
  unfold Wd.number at hQ
  have O := C7.O
  have S := C7.S
  have hns := O.ns
  have ar := all_r hns
  have no : ¬ (((0 ≤ q ∧ q < W.cur.nq) ∧ 0 ≤ a ∧ a < W.cur.ch q) ∧ 0 ≤ s ∧ s ≤ w32 (shl32 1 W.cur.ns - 1)) → Rn (d + 3) 118 25 [xR 0, xI q, xI a, xI s] [] g h Q := by
    intro z
    rw [if_neg z] at hQ
    rw [B118_25, ga C3.k0]
    simp only [S133 (k := C3.k0), S134 (k := C3.k0), S135 (k := C3.k0), S136 (k := C3.k0), o1, o0, List.cons_append, List.nil_append, B118_30, g01]
    exact cst C0 hQ
  rw [E118, ga C3.k0, S141 C3 C7]
  by_cases hq : (0 ≤ q ∧ q < W.cur.nq) ∧ 0 ≤ a ∧ a < W.cur.ch q
  · rw [bzt hq, o1, List.cons_append, List.nil_append, B118_6, if_neg (by decide)]
    by_cases s0 : s < 0
    · rw [if_pos s0]; exact no (fun z => by omega)
    · rw [if_neg s0, ga C3.k0, C3.p4, ga S.k0, S.ns, ga (by omega)]
      have e := ushr_0 hns (a := s) (by omega)
      by_cases hs : s ≤ w32 (shl32 1 W.cur.ns - 1)
      · rw [if_pos ⟨hq, by omega, hs⟩] at hQ
        rw [if_pos (by rw [e]; exact hs)]
        by_cases z : s = 0
        · rw [if_pos z] at hQ
          rw [if_neg (fun y => y z), ga C3.k0]
          simp only [S133 (k := C3.k0), S134 (k := C3.k0), S135 (k := C3.k0), S136 (k := C3.k0), o1, o0, List.cons_append, List.nil_append, B118_41, g01]
          exact cst C0 hQ
        · rw [if_neg z] at hQ
          have pr := popc_r s
          have p1 := popc_1 (v := s) (by omega) (by omega)
          have b := W.cur.cnt_r q a s W.cur.ns.toNat
          unfold Wd.frac at hQ
          rw [if_neg (show ¬ popc s = 0 by omega)] at hQ
          rw [if_pos z, ga C3.k0, ga S.k0]
          refine S55 S O hq.1 ?_
          rw [o1, List.cons_append, List.nil_append, B118_53, S265 (by omega) (by omega), o1, List.cons_append, List.nil_append, B118_58, ga C3.k0]
          refine S137 C3.k0 b.1 (by omega) (by omega) (by omega) ?_
          simp only [o1, o0, List.cons_append, List.nil_append, B118_62, g11]
          exact ctl C0 hQ
      · rw [if_neg (by rw [e]; exact hs)]
        exact no (fun z => hs z.2.2)
  · rw [bzf hq, o1, List.cons_append, List.nil_append, B118_6, if_pos rfl]
    exact no (fun z => hq z.1)
theorem C241 {W : Wd} {q a s : Int} (hs2 : s ≤ 2147483647) : Mw 241 [xR 138, xI q, xI a, xI s] 4 W (W.number q a s) := by
  intro g h C O d Q hQ
  have K := C.1
  have M := C.2.2.cur
  unfold Wd.number at hQ
  have hns := O.ns
  have ar := all_r hns
  have no : ¬ (((0 ≤ q ∧ q < W.cur.nq) ∧ 0 ≤ a ∧ a < W.cur.ch q) ∧ 0 ≤ s ∧ s ≤ w32 (shl32 1 W.cur.ns - 1)) → Rn (d + 3) 241 21 [xR 138, xI q, xI a, xI s] [] g h Q := by
    intro z
    rw [if_neg z] at hQ
    rw [B241_21, ga K.k0]
    simp only [S160 (k := K.k0), S161 (k := K.k0), S162 (k := K.k0), o1, o0, List.cons_append, List.nil_append, B241_26, ite_not, bzF, bzT, if_true, if_false, ↓reduceIte, Int.reduceEq, Int.reduceLE, Int.reduceLT, Int.reduceNeg, ne_eq, not_true_eq_false, not_false_eq_true, and_self, and_true, true_and, and_false, false_and, eq_self, g01]
    exact mst C hQ
  have go : ∀ al, al = w32 (shl32 1 W.cur.ns - 1) → ((0 ≤ q ∧ q < W.cur.nq) ∧ 0 ≤ a ∧ a < W.cur.ch q) → ¬ s < 0 → Rn (d + 3) 241 18 [xR 138, xI q, xI a, xI s] [xI al, xI s] g h Q := by
    intro al hal hq s0
    rw [← hal] at hQ no ar
    clear hal
    rw [B241_18]
    by_cases hs : s ≤ al
    · rw [if_pos ⟨hq, by omega, hs⟩] at hQ
      rw [if_pos hs]
      by_cases z : s = 0
      · rw [if_pos z] at hQ
        rw [if_neg (fun y => y z), ga K.k0]
        simp only [S160 (k := K.k0), S161 (k := K.k0), S162 (k := K.k0), o1, o0, List.cons_append, List.nil_append, B241_37, B241_57, ite_not, bzF, bzT, if_true, if_false, ↓reduceIte, Int.reduceEq, Int.reduceLE, Int.reduceLT, Int.reduceNeg, ne_eq, not_true_eq_false, not_false_eq_true, and_self, and_true, true_and, and_false, false_and, eq_self, g01]
        exact mst C hQ
      · rw [if_neg z] at hQ
        have pr := popc_r s
        have p1 := popc_1 (v := s) (by omega) (by omega)
        have b := W.cur.cnt_r q a s W.cur.ns.toNat
        unfold Wd.frac at hQ
        rw [if_neg (show ¬ popc s = 0 by omega)] at hQ
        rw [if_pos z, ga K.k0]
        refine S237 K M O hq.1 ?_
        rw [o1, List.cons_append, List.nil_append, B241_48]
        refine S238 (by omega) (by omega) ?_
        rw [o1, List.cons_append, List.nil_append, B241_53, ga K.k0]
        refine S163 K.k0 b.1 (by omega) (by omega) (by omega) ?_
        simp only [o1, o0, List.cons_append, List.nil_append, B241_57, g11]
        exact mtl C (fun _ _ _ _ => rfl) (fun _ _ => rfl) (fun _ _ => rfl) hQ
    · rw [if_neg hs]
      exact no (fun z => hs z.2.2)
  rw [E241, ga K.k0, S240 K M O]
  by_cases hq : (0 ≤ q ∧ q < W.cur.nq) ∧ 0 ≤ a ∧ a < W.cur.ch q
  · rw [bzt hq, o1, List.cons_append, List.nil_append, B241_6, if_neg (by decide)]
    by_cases s0 : s < 0
    · rw [if_pos s0]; exact no (fun z => by omega)
    · rw [if_neg s0, ga K.k0, E239, ga K.k0, K.pat, ga ⟨K.kat, by decide, by rw [K.lat]; decide⟩, M.ns, ga (by omega), o1, List.cons_append, List.nil_append]
      exact go _ rfl hq s0
  · rw [bzf hq, o1, List.cons_append, List.nil_append, B241_6, if_pos rfl]
    exact no (fun z => hq z.1)
/-- how many sheets are alike a sheet -/
def St.alk (A : St) (s d : Int) : Nat → Int
  | 0 => 0
  | o + 1 => A.alk s d o + bz (A.ask o = A.ask s ∧ dif (A.pa s) (A.pa o) A.nq.toNat ≤ d)
theorem alk_r (A : St) (s d : Int) : ∀ n : Nat, 0 ≤ A.alk s d n ∧ A.alk s d n ≤ n := by
  intro n
  induction n with
  | zero => exact ⟨Int.le_refl 0, Int.le_refl 0⟩
  | succ n ih =>
    have := @bzr (A.ask n = A.ask s ∧ dif (A.pa s) (A.pa n) A.nq.toNat ≤ d) _
    unfold St.alk
    omega
def St.grp (A : St) (a d : Int) : Nat → Int × Int
  | 0 => (0, -1)
  | i + 1 => if A.ask i = a ∧ (A.grp a d i).1 < A.alk i d A.ns.toNat then (A.alk i d A.ns.toNat, (i : Int)) else A.grp a d i
theorem grp_s (A : St) (a d : Int) (i : Nat) : A.grp a d (i + 1) = if A.ask i = a ∧ (A.grp a d i).1 < A.alk i d A.ns.toNat then (A.alk i d A.ns.toNat, (i : Int)) else A.grp a d i := rfl
theorem grp_r (A : St) (a d : Int) : ∀ n : Nat, 0 ≤ (A.grp a d n).1 := by
  intro n
  induction n with
  | zero => exact Int.le_refl 0
  | succ n ih =>
    rw [grp_s]
    split
    · exact (alk_r A n d _).1
    · exact ih
def Wd.group (W : Wd) (a e w : Int) : Int × Int := if (0 ≤ a ∧ a ≤ 3) ∧ (0 ≤ e ∧ e ≤ 6) ∧ 0 ≤ w ∧ w ≤ 1 then (if (W.cur.grp a e W.cur.ns.toNat).2 = -1 then (6, -1) else (0, if w = 0 then (W.cur.grp a e W.cur.ns.toNat).1 else (W.cur.grp a e W.cur.ns.toNat).2)) else (1, -1)
theorem S53 {g : KG} {h : KH} {l r : Int} {A : St} (S : SR g h 6 l r A) (O : A.Ok) {s e : Int} (hs : ins A s) {d : Nat} {Q : Option KV → KG → KH → Prop} (hQ : Q (some (xI (A.alk s e A.ns.toNat))) g h) : Cl (d + 3) 53 [xR 6, xI s, xI e] g h Q := by
  have h16 := O.ns
  have s0 := hs.1
  have s1 := hs.2
  have lp : ∀ n o : Nat, o + n = A.ns.toNat → Rn (d + 2) 53 5 [xR 6, xI s, xI e, xI (A.alk s e o), xI (o : Int)] [] g h Q := by
    intro n
    induction n with
    | zero =>
      intro o ho
      have ho : o = A.ns.toNat := by omega
      rw [B53_5, ga S.k0, S.ns, if_pos (by omega), ho]
      exact hQ
    | succ n ih =>
      intro o ho
      have hoo : ins A o := ⟨by omega, by omega⟩
      have e1 : ((o : Int) + 1) = ((o + 1 : Nat) : Int) := by omega
      have ar := alk_r A s e o
      have nx := ih (o + 1) (by omega)
      rw [St.alk] at nx
      have skip : ¬ (A.ask o = A.ask s ∧ dif (A.pa s) (A.pa o) A.nq.toNat ≤ e) → Rn (d + 2) 53 53 [xR 6, xI s, xI e, xI (A.alk s e o), xI (o : Int)] [] g h Q := by
        intro z
        rw [bzf z, Int.add_zero] at nx
        rw [B53_53, w32_id (by omega) (by omega), e1]
        exact nx
      have po := O.pa _ hoo
      have ps := O.pa _ hs
      rw [B53_5, ga S.k0, S.ns, if_neg (by omega), ga S.k0, S.n3, ga ⟨S.m23, by omega, by rw [S.w23]; omega⟩, ga S.k0, ga ⟨S.m23, by omega, by rw [S.w23]; omega⟩, S.v23 o hoo, S.v23 s hs]
      by_cases ha : A.ask o = A.ask s
      · rw [if_neg (fun z => z ha), ga S.k0, S.n7, ga ⟨S.m27, by omega, by rw [S.w27]; omega⟩, ga S.k0, ga ⟨S.m27, by omega, by rw [S.w27]; omega⟩, S.v27 o hoo, S.v27 s hs, S153 po.1 po.2.1 ps.1 ps.2.1, dif_up O po ps, dif_c, o1, List.cons_append, List.nil_append, B53_46]
        by_cases hd : dif (A.pa s) (A.pa o) A.nq.toNat ≤ e
        · rw [bzt ⟨ha, hd⟩] at nx
          rw [if_neg (by omega), B53_53, w32_id (by omega) (by omega), w32_id (by omega) (by omega), e1]
          exact nx
        · rw [if_pos (by omega)]
          exact skip (fun z => hd z.2)
      · rw [if_pos ha]
        exact skip (fun z => ha z.1)
  rw [E53]
  exact lp A.ns.toNat 0 (by omega)
theorem C114 {W : Wd} {a e w : Int} : Ci 114 [xR 0, xI a, xI e, xI w] 4 W (W.group a e w) := by
  intro g h C d Q hQ
  have C0 := C
  obtain ⟨l, r, l2, r2, C1, C2, C3, C4, C5, C6, C7⟩ := C
  unfold Wd.group at hQ
  have no : ¬ ((0 ≤ a ∧ a ≤ 3) ∧ (0 ≤ e ∧ e ≤ 6) ∧ 0 ≤ w ∧ w ≤ 1) → Rn (d + 3) 114 29 [xR 0, xI a, xI e, xI w, xU, xU, xU, xU] [] g h Q := by
    intro z
    rw [if_neg z] at hQ
    rw [B114_29, ga C3.k0]
    simp only [S133 (k := C3.k0), S134 (k := C3.k0), S135 (k := C3.k0), S136 (k := C3.k0), o1, o0, List.cons_append, List.nil_append, B114_34]
    exact cst C0 hQ
  rw [E114, S145]
  by_cases ha : 0 ≤ a ∧ a ≤ 3
  · rw [bzt ha, o1, List.cons_append, List.nil_append, B114_4, if_neg (by decide), S146]
    by_cases he : 0 ≤ e ∧ e ≤ 6
    · rw [bzt he, o1, List.cons_append, List.nil_append, B114_16, if_neg (by decide), S146]
      by_cases hw : 0 ≤ w ∧ w ≤ 1
      · rw [bzt hw, o1, List.cons_append, List.nil_append, B114_26, if_pos (by decide)]
        rw [if_pos ⟨ha, he, hw⟩] at hQ
        have O := C7.O
        have S := C7.S
        have hns := O.ns
        have lp : ∀ n i : Nat, i + n = W.cur.ns.toNat → ∀ x : KV, Rn (d + 3) 114 44 [xR 0, xI a, xI e, xI w, xI (W.cur.grp a e i).1, xI (W.cur.grp a e i).2, xI (i : Int), x] [] g h Q := by
          intro n
          induction n with
          | zero =>
            intro i hi x
            have hi : i = W.cur.ns.toNat := by omega
            rw [← hi] at hQ
            rw [B114_44, ga C3.k0, C3.p4, ga S.k0, S.ns, if_pos (by omega)]
            by_cases h1 : (W.cur.grp a e i).2 = -1
            · rw [if_pos h1] at hQ
              rw [if_neg (fun z => z h1), ga C3.k0]
              simp only [S133 (k := C3.k0), S134 (k := C3.k0), S135 (k := C3.k0), S136 (k := C3.k0), o1, o0, List.cons_append, List.nil_append, B114_119]
              exact cst C0 hQ
            · rw [if_neg h1] at hQ
              rw [if_pos h1]
              by_cases h2 : w = 0
              · rw [if_pos h2] at hQ
                rw [if_neg (fun z => z h2), B114_132, ga C3.k0]
                simp only [S133 (k := C3.k0), S134 (k := C3.k0), S135 (k := C3.k0), S136 (k := C3.k0), o1, o0, List.cons_append, List.nil_append, B114_135]
                exact cst C0 hQ
              · rw [if_neg h2] at hQ
                rw [if_pos h2, B114_132, ga C3.k0]
                simp only [S133 (k := C3.k0), S134 (k := C3.k0), S135 (k := C3.k0), S136 (k := C3.k0), o1, o0, List.cons_append, List.nil_append, B114_135]
                exact cst C0 hQ
          | succ n ih =>
            intro i hi x
            have hii : ins W.cur i := ⟨by omega, by omega⟩
            have e1 : ((i : Int) + 1) = ((i + 1 : Nat) : Int) := by omega
            have gr := grp_r W.cur a e i
            have nx := fun y => ih (i + 1) (by omega) y
            rw [grp_s] at nx
            rw [B114_44, ga C3.k0, C3.p4, ga S.k0, S.ns, if_neg (by omega), ga C3.k0, ga S.k0, S.n3, ga ⟨S.m23, by omega, by rw [S.w23]; omega⟩, S.v23 i hii]
            by_cases hs : W.cur.ask i = a
            · rw [if_neg (fun z => z hs), ga C3.k0, ga S.k0]
              refine S53 S O hii ?_
              rw [o1, List.cons_append, List.nil_append, B114_80, B114_84]
              by_cases hm : (W.cur.grp a e i).1 < W.cur.alk i e W.cur.ns.toNat
              · simp only [if_pos (show W.cur.ask i = a ∧ (W.cur.grp a e i).1 < W.cur.alk i e W.cur.ns.toNat from ⟨hs, hm⟩)] at nx
                rw [if_neg (by omega), B114_101, w32_id (by omega) (by omega), e1]
                exact nx _
              · simp only [if_neg (show ¬ (W.cur.ask i = a ∧ (W.cur.grp a e i).1 < W.cur.alk i e W.cur.ns.toNat) from fun z => hm z.2)] at nx
                rw [if_pos (by omega), B114_101, w32_id (by omega) (by omega), e1]
                exact nx _
            · simp only [if_neg (show ¬ (W.cur.ask i = a ∧ (W.cur.grp a e i).1 < W.cur.alk i e W.cur.ns.toNat) from fun z => hs z.1)] at nx
              rw [if_pos hs, B114_84, if_pos gr, B114_101, w32_id (by omega) (by omega), e1]
              exact nx _
        exact lp W.cur.ns.toNat 0 (by omega) _
      · rw [bzf hw, o1, List.cons_append, List.nil_append, B114_26, if_neg (by decide)]
        exact no (fun z => hw z.2.2)
    · rw [bzf he, o1, List.cons_append, List.nil_append, B114_16, if_pos rfl]
      exact no (fun z => he z.2.1)
  · rw [bzf ha, o1, List.cons_append, List.nil_append, B114_4, if_pos rfl]
    exact no (fun z => ha z.1)
theorem C230 {W : Wd} {a e w : Int} : Mi 230 [xR 138, xI a, xI e, xI w] 4 W (W.group a e w) := by
  intro g h C O d Q hQ
  have K := C.1
  have M := C.2.2.cur
  unfold Wd.group at hQ
  have no : ¬ ((0 ≤ a ∧ a ≤ 3) ∧ (0 ≤ e ∧ e ≤ 6) ∧ 0 ≤ w ∧ w ≤ 1) → Rn (d + 3) 230 27 [xR 138, xI a, xI e, xI w, xU, xU, xU, xU, xU] [] g h Q := by
    intro z
    rw [if_neg z] at hQ
    rw [B230_27, ga K.k0]
    simp only [S160 (k := K.k0), S161 (k := K.k0), S162 (k := K.k0), o1, o0, List.cons_append, List.nil_append, B230_32]
    exact mst C hQ
  rw [E230, S202]
  by_cases ha : 0 ≤ a ∧ a ≤ 3
  · rw [bzt ha, o1, List.cons_append, List.nil_append, B230_5, if_neg (by decide)]
    by_cases h1 : e < 0
    · rw [if_pos h1]; exact no (fun z => by omega)
    by_cases h2 : 6 < e
    · rw [if_neg h1, if_pos h2]; exact no (fun z => by omega)
    by_cases h3 : w < 0
    · rw [if_neg h1, if_neg h2, if_pos h3]; exact no (fun z => by omega)
    by_cases h4 : w ≤ 1
    · rw [if_neg h1, if_neg h2, if_neg h3, if_pos h4]
      rw [if_pos ⟨ha, by omega, by omega, h4⟩] at hQ
      have hns := O.ns
      have g2 : gK g 139 = 20 ∧ 0 ≤ (2 : Int) ∧ (2 : Int) < gL g 139 := ⟨K.kat, by decide, by rw [K.lat]; decide⟩
      have lp : ∀ n i : Nat, i + n = W.cur.ns.toNat → ∀ x y : KV, Rn (d + 3) 230 42 [xR 138, xI a, xI e, xI w, xI (W.cur.grp a e i).2, xI (W.cur.grp a e i).1, xI (i : Int), x, y] [] g h Q := by
        intro n
        induction n with
        | zero =>
          intro i hi x y
          have hi : i = W.cur.ns.toNat := by omega
          rw [← hi] at hQ
          rw [B230_42, ga K.k0, K.pat, ga g2, M.ns, if_pos (by omega)]
          by_cases h1 : (W.cur.grp a e i).2 = -1
          · rw [if_pos h1] at hQ
            rw [if_neg (fun z => z h1), ga K.k0]
            simp only [S160 (k := K.k0), S161 (k := K.k0), S162 (k := K.k0), o1, o0, List.cons_append, List.nil_append, B230_159, B230_177]
            exact mst C hQ
          · rw [if_neg h1] at hQ
            rw [if_pos h1]
            by_cases h2 : w = 0
            · rw [if_pos h2] at hQ
              rw [if_neg (fun z => z h2), B230_174, ga K.k0]
              simp only [S160 (k := K.k0), S161 (k := K.k0), S162 (k := K.k0), o1, o0, List.cons_append, List.nil_append, B230_177]
              exact mst C hQ
            · rw [if_neg h2] at hQ
              rw [if_pos h2, B230_174, ga K.k0]
              simp only [S160 (k := K.k0), S161 (k := K.k0), S162 (k := K.k0), o1, o0, List.cons_append, List.nil_append, B230_177]
              exact mst C hQ
        | succ n ih =>
          intro i hi x y
          have hii : ins W.cur i := ⟨by omega, by omega⟩
          have e1 : ((i : Int) + 1) = ((i + 1 : Nat) : Int) := by omega
          have gr := grp_r W.cur a e i
          have nx := fun y z => ih (i + 1) (by omega) y z
          rw [grp_s] at nx
          have si : 0 ≤ (i : Int) ∧ (i : Int) < 16 := by omega
          rw [B230_42, ga K.k0, K.pat, ga g2, M.ns, if_neg (by omega), ga K.k0, S205 K si (by decide), M.ask i hii, o1, List.cons_append, List.nil_append, B230_60]
          by_cases hs : W.cur.ask i = a
          · rw [if_pos hs]
            have inner : ∀ m o : Nat, o + m = W.cur.ns.toNat → Rn (d + 3) 230 73 [xR 138, xI a, xI e, xI w, xI (W.cur.grp a e i).2, xI (W.cur.grp a e i).1, xI (i : Int), xI (W.cur.alk i e o), xI (o : Int)] [] g h Q := by
              intro m
              induction m with
              | zero =>
                intro o ho
                have ho : o = W.cur.ns.toNat := by omega
                rw [B230_73, ga K.k0, K.pat, ga g2, M.ns, if_pos (by omega), ho]
                by_cases hm : (W.cur.grp a e i).1 < W.cur.alk i e W.cur.ns.toNat
                · simp only [if_pos (show W.cur.ask i = a ∧ (W.cur.grp a e i).1 < W.cur.alk i e W.cur.ns.toNat from ⟨hs, hm⟩)] at nx
                  rw [if_pos hm, B230_141, w32_id (by omega) (by omega), e1]
                  exact nx _ _
                · simp only [if_neg (show ¬ (W.cur.ask i = a ∧ (W.cur.grp a e i).1 < W.cur.alk i e W.cur.ns.toNat) from fun z => hm z.2)] at nx
                  rw [if_neg hm, B230_141, w32_id (by omega) (by omega), e1]
                  exact nx _ _
              | succ m im =>
                intro o ho
                have hoo : ins W.cur o := ⟨by omega, by omega⟩
                have e2 : ((o : Int) + 1) = ((o + 1 : Nat) : Int) := by omega
                have so : 0 ≤ (o : Int) ∧ (o : Int) < 16 := by omega
                have ar := alk_r W.cur i e o
                have ny := im (o + 1) (by omega)
                rw [St.alk] at ny
                rw [B230_73, ga K.k0, K.pat, ga g2, M.ns, if_neg (by omega), ga K.k0, S205 K so (by decide), M.ask o hoo, o1, List.cons_append, List.nil_append, B230_93]
                by_cases ht : W.cur.ask o = a
                · rw [if_neg (fun z => z ht), ga K.k0]
                  refine S229 K M O hii hoo ?_
                  rw [o1, List.cons_append, List.nil_append, B230_105]
                  by_cases hd : dif (W.cur.pa i) (W.cur.pa o) W.cur.nq.toNat ≤ e
                  · rw [bzt ⟨by rw [ht, hs], hd⟩] at ny
                    rw [if_neg (by omega), B230_114, w32_id (by omega) (by omega), w32_id (by omega) (by omega), e2]
                    exact ny
                  · rw [bzf (fun z => hd z.2)] at ny
                    rw [if_pos (by omega), B230_113, B230_114, w32_id (by omega) (by omega), w32_id (by omega) (by omega), e2]
                    exact ny
                · rw [bzf (fun z => ht (by rw [z.1, hs]))] at ny
                  rw [if_pos ht, B230_113, B230_114, w32_id (by omega) (by omega), w32_id (by omega) (by omega), e2]
                  exact ny
            exact inner W.cur.ns.toNat 0 (by omega)
          · simp only [if_neg (show ¬ (W.cur.ask i = a ∧ (W.cur.grp a e i).1 < W.cur.alk i e W.cur.ns.toNat) from fun z => hs z.1)] at nx
            rw [if_neg hs, B230_141, w32_id (by omega) (by omega), e1]
            exact nx _ _
      exact lp W.cur.ns.toNat 0 (by omega) _ _
    · rw [if_neg h1, if_neg h2, if_neg h3, if_neg h4]; exact no (fun z => by omega)
  · rw [bzf ha, o1, List.cons_append, List.nil_append, B230_5, if_pos rfl]
    exact no (fun z => ha z.1)
