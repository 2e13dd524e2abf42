/-! twins, strange -/
def sq (w : Int) : Int := w * w
def blw (t w : Int) : Int := if w < t then w else 0
theorem sq_r (w : Int) (h0 : 0 ≤ w) (h1 : w ≤ 16777216) : 0 ≤ sq w ∧ sq w ≤ 281474976710656 := by
  unfold sq
  exact ⟨Int.mul_nonneg h0 h0, Int.mul_le_mul h1 h1 h0 (by decide)⟩
theorem blw_r (t w : Int) (h0 : 0 ≤ w) (h1 : w ≤ 16777216) : 0 ≤ blw t w ∧ blw t w ≤ 281474976710656 := by
  unfold blw
  split <;> omega
theorem pw4 {n : Nat} {b : Int} (hn : n ≤ 6) (hb : 0 ≤ b) : (4 : Int) ^ n * b ≤ 4096 * b := by
  have h := p46 hn
  have e : (4 : Int) ^ n = ((4 ^ n : Nat) : Int) := by rw [Int.natCast_pow]; rfl
  rw [e]
  exact Int.mul_le_mul_of_nonneg_right (by omega) hb
/-- a part of a sum over one question's answers -/
theorem part_r {A : St} (O : A.Ok) {f : Int → Int} (H : ∀ w, 0 ≤ w → w ≤ 16777216 → 0 ≤ f w ∧ f w ≤ 281474976710656) {n q : Nat} {p : Int} (hq : q + (n + 1) = A.nq.toNat) (hp : A.row p) {c : Nat} (hc : c ≤ (A.ch q).toNat) : 0 ≤ sumN (fun a => A.tre f n (q + 1) (wa p q a) (A.prd A.nq p q * A.wof 0 (wa p q a) q)) c ∧ sumN (fun a => A.tre f n (q + 1) (wa p q a) (A.prd A.nq p q * A.wof 0 (wa p q a) q)) c ≤ 1152921504606846976 := by
  have h6 := O.nq
  have hi : inq A q := ⟨by omega, by omega⟩
  have ch := O.ch q hi
  have s := sumN_r (g := fun a => A.tre f n (q + 1) (wa p q a) (A.prd A.nq p q * A.wof 0 (wa p q a) q)) (b := 4 ^ n * 281474976710656) c (fun a ha => by
    have ha2 : 0 ≤ (a : Int) ∧ (a : Int) < A.ch q := by omega
    show 0 ≤ A.tre f n (q + 1) (wa p q a) (A.prd A.nq p q * A.wof 0 (wa p q a) q) ∧ _
    rw [prd_wa O hi hp ha2]
    exact tre_r O H n (q + 1) _ (by omega) (row_wa O hp hi ha2))
  refine ⟨s.1, Int.le_trans s.2 ?_⟩
  have h1 : (c : Int) * (4 ^ n * 281474976710656) ≤ 4 * (4 ^ n * 281474976710656) := Int.mul_le_mul_of_nonneg_right (by omega) (Int.mul_nonneg (Int.pow_nonneg (by decide)) (by decide))
  have h2 := pw4 (n := n + 1) (b := 281474976710656) (by omega) (by decide)
  rw [Int.pow_succ, Int.mul_comm (4 ^ n) 4, Int.mul_assoc] at h2
  omega
theorem S149 {g : KG} {h : KH} {l : Int} {A : St} (L : LR g h l A) (O : A.Ok) : ∀ (n q : Nat) (p : Int) (d : Nat) (Q : Option KV → KG → KH → Prop), q + n = A.nq.toNat → A.row p → Q (some (xL (A.tre sq n q p (A.prd A.nq p q)))) g h → Cl (d + n + 3) 149 [xR l, xI (q : Int), xI p, xL (A.prd A.nq p q)] g h Q := by
  have h6 := O.nq
  intro n
  induction n with
  | zero =>
    intro q p d Q hq hp hQ
    have w := O.prd2 hp A.nq q (by omega)
    have f := sq_r _ w.1 w.2
    rw [E149, ga L.k0, L.nq, if_pos (by omega), B149_14]
    unfold sq at f
    rw [w64_id (by omega) (by omega)]
    exact hQ
  | succ n ih =>
    intro q p d Q hq hp hQ
    have hi : inq A q := ⟨by omega, by omega⟩
    have ch := O.ch q hi
    have w := O.prd2 hp A.nq q (by omega)
    rw [show d + (n + 1) + 3 = (d + n + 3) + 1 by omega, E149, ga L.k0, L.nq, if_neg (by omega)]
    simp only [c64eq, ne_eq]
    by_cases hz : A.prd A.nq p q = 0
    · rw [hz, tre_0 A (by decide)] at hQ
      rw [hz, if_neg (fun z => z rfl), B149_14]
      exact hQ
    · rw [if_pos hz]
      have lp : ∀ m c : Nat, c + m = (A.ch q).toNat → ∀ x : KV, Rn (d + n + 3) 149 24 [xR l, xI (q : Int), xI p, xL (A.prd A.nq p q), xU, xL (sumN (fun a => A.tre sq n (q + 1) (wa p q a) (A.prd A.nq p q * A.wof 0 (wa p q a) q)) c), xU, xI (c : Int), x] [] g h Q := by
        intro m
        induction m with
        | zero =>
          intro c hc x
          have hc : c = (A.ch q).toNat := by omega
          rw [B149_24, ga L.k0, L.p2, ga ⟨L.k2, by omega, by rw [L.l2]; omega⟩, L.ch q hi, if_pos (by omega), hc]
          exact hQ
        | succ m im =>
          intro c hc x
          have e1 : ((c : Int) + 1) = ((c + 1 : Nat) : Int) := by omega
          have e2 : ((q : Int) + 1) = ((q + 1 : Nat) : Int) := by omega
          have hc2 : 0 ≤ (c : Int) ∧ (c : Int) < A.ch q := by omega
          have hr := row_wa O hp hi hc2
          have pw := prd_wa O hi hp hc2
          have w2 := O.prd2 hr A.nq (q + 1) (by omega)
          have pr := part_r O sq_r (n := n) hq hp (c := c) (by omega)
          have pr2 := part_r O sq_r (n := n) hq hp (c := c + 1) (by omega)
          have nx := im (c + 1) (by omega)
          rw [sumN, pw] at nx
          rw [sumN, pw] at pr2
          rw [B149_24, ga L.k0, L.p2, ga ⟨L.k2, by omega, by rw [L.l2]; omega⟩, L.ch q hi, if_neg (by omega), S152 hp.1 hp.2.1 (by omega) (by omega) hc2.1 (by omega), o1, List.cons_append, List.nil_append, B149_42, ga L.k0, L.p3, ga L.tl.k0]
          refine S68 L.tl O (Or.inl rfl) hi hr ?_
          rw [o1, List.cons_append, List.nil_append, B149_63, pw, w64_id (by omega) (by omega), w32_id (by omega) (by omega), e2]
          refine ih (q + 1) _ d _ (by omega) hr ?_
          rw [o1, List.cons_append, List.nil_append, B149_68, w64_id (by omega) (by omega), w32_id (by omega) (by omega), e1]
          exact nx _
      exact lp (A.ch q).toNat 0 (by omega) _
theorem S150 {g : KG} {h : KH} {l t : Int} {A : St} (L : LR g h l A) (O : A.Ok) : ∀ (n q : Nat) (p : Int) (d : Nat) (Q : Option KV → KG → KH → Prop), q + n = A.nq.toNat → A.row p → Q (some (xL (A.tre (blw t) n q p (A.prd A.nq p q)))) g h → Cl (d + n + 3) 150 [xR l, xI (q : Int), xI p, xL (A.prd A.nq p q), xI t] g h Q := by
  have h6 := O.nq
  have fin : ∀ (q : Nat) (p w : Int) (d : Nat) (Q : Option KV → KG → KH → Prop), Q (some (xL (blw t w))) g h → Rn (d + 2) 150 14 [xR l, xI (q : Int), xI p, xL w, xU, xI t, xU, xU, xU, xU] [] g h Q := by
    intro q p w d Q hQ
    unfold blw at hQ
    rw [B150_14]
    simp only [c64ge]
    by_cases hc : t ≤ w
    · rw [if_neg (by omega)] at hQ
      rw [if_pos hc, B150_27]; exact hQ
    · rw [if_pos (by omega)] at hQ
      rw [if_neg hc, B150_27]; exact hQ
  intro n
  induction n with
  | zero =>
    intro q p d Q hq hp hQ
    rw [E150, ga L.k0, L.nq, if_pos (by omega)]
    exact fin q p _ d Q hQ
  | succ n ih =>
    intro q p d Q hq hp hQ
    have hi : inq A q := ⟨by omega, by omega⟩
    have ch := O.ch q hi
    have w := O.prd2 hp A.nq q (by omega)
    rw [show d + (n + 1) + 3 = (d + n + 3) + 1 by omega, E150, ga L.k0, L.nq, if_neg (by omega)]
    simp only [c64eq, ne_eq]
    by_cases hz : A.prd A.nq p q = 0
    · rw [hz, tre_0 A (by unfold blw; split <;> rfl)] at hQ
      rw [hz, if_neg (fun z => z rfl)]
      exact fin q p 0 (d + n + 1) Q (by unfold blw; rw [ite_self]; exact hQ)
    · rw [if_pos hz]
      have lp : ∀ m c : Nat, c + m = (A.ch q).toNat → ∀ x : KV, Rn (d + n + 3) 150 34 [xR l, xI (q : Int), xI p, xL (A.prd A.nq p q), xU, xI t, xL (sumN (fun a => A.tre (blw t) n (q + 1) (wa p q a) (A.prd A.nq p q * A.wof 0 (wa p q a) q)) c), xU, xI (c : Int), x] [] g h Q := by
        intro m
        induction m with
        | zero =>
          intro c hc x
          have hc : c = (A.ch q).toNat := by omega
          rw [B150_34, ga L.k0, L.p2, ga ⟨L.k2, by omega, by rw [L.l2]; omega⟩, L.ch q hi, if_pos (by omega), hc]
          exact hQ
        | succ m im =>
          intro c hc x
          have e1 : ((c : Int) + 1) = ((c + 1 : Nat) : Int) := by omega
          have e2 : ((q : Int) + 1) = ((q + 1 : Nat) : Int) := by omega
          have hc2 : 0 ≤ (c : Int) ∧ (c : Int) < A.ch q := by omega
          have hr := row_wa O hp hi hc2
          have pw := prd_wa O hi hp hc2
          have w2 := O.prd2 hr A.nq (q + 1) (by omega)
          have pr := part_r O (blw_r t) (n := n) hq hp (c := c) (by omega)
          have pr2 := part_r O (blw_r t) (n := n) hq hp (c := c + 1) (by omega)
          have nx := im (c + 1) (by omega)
          rw [sumN, pw] at nx
          rw [sumN, pw] at pr2
          rw [B150_34, ga L.k0, L.p2, ga ⟨L.k2, by omega, by rw [L.l2]; omega⟩, L.ch q hi, if_neg (by omega), S152 hp.1 hp.2.1 (by omega) (by omega) hc2.1 (by omega), o1, List.cons_append, List.nil_append, B150_52, ga L.k0, L.p3, ga L.tl.k0]
          refine S68 L.tl O (Or.inl rfl) hi hr ?_
          rw [o1, List.cons_append, List.nil_append, B150_73, pw, w64_id (by omega) (by omega), w32_id (by omega) (by omega), e2]
          refine ih (q + 1) _ d _ (by omega) hr ?_
          rw [o1, List.cons_append, List.nil_append, B150_80, w64_id (by omega) (by omega), w32_id (by omega) (by omega), e1]
          exact nx _
      exact lp (A.ch q).toNat 0 (by omega) _
theorem row_0 {A : St} (O : A.Ok) : A.row 0 := by
  refine ⟨Int.le_refl 0, by decide, fun q hq => ?_, fun q _ _ => ?_⟩
  · have := O.ch q hq
    have : dg 0 q = 0 := by unfold dg; rw [Int.zero_ediv]; rfl
    omega
  · unfold dg; rw [Int.zero_ediv]; rfl
/-- the sum over all rows -/
def St.all (A : St) (f : Int → Int) : Int := A.tre f A.nq.toNat 0 0 1
theorem all_rng {A : St} (O : A.Ok) {f : Int → Int} (H : ∀ w, 0 ≤ w → w ≤ 16777216 → 0 ≤ f w ∧ f w ≤ 281474976710656) : 0 ≤ A.all f ∧ A.all f ≤ 1152921504606846976 := by
  have h6 := O.nq
  have r := tre_r O H A.nq.toNat 0 0 (by omega) (row_0 O)
  have p := pw4 (n := A.nq.toNat) (b := 281474976710656) (by omega) (by decide)
  have e : A.prd A.nq 0 0 = 1 := rfl
  rw [e] at r
  unfold St.all
  omega
def Wd.twins (W : Wd) : Wd × Int := W.frac (W.cur.all sq) (256 ^ W.cur.nq.toNat)
def Wd.strange (W : Wd) (t : Int) : Wd × Int := if 0 ≤ t ∧ t ≤ 99999999 then W.frac (W.cur.all (blw t)) (16 ^ W.cur.nq.toNat) else (W.st 1, 0)
theorem n7 {n : Int} (h : 0 ≤ n ∧ n ≤ 6) : n = 0 ∨ n = 1 ∨ n = 2 ∨ n = 3 ∨ n = 4 ∨ n = 5 ∨ n = 6 := by omega
theorem shl_256 {n : Int} (h : 0 ≤ n ∧ n ≤ 6) : shl64 1 (8 * n) = 256 ^ n.toNat ∧ 0 < (256 : Int) ^ n.toNat ∧ (256 : Int) ^ n.toNat ≤ 281474976710656 := by
  rcases n7 h with rfl | rfl | rfl | rfl | rfl | rfl | rfl <;> decide
theorem shl_16 {n : Int} (h : 0 ≤ n ∧ n ≤ 6) : shl64 1 (4 * n) = 16 ^ n.toNat ∧ 0 < (16 : Int) ^ n.toNat ∧ (16 : Int) ^ n.toNat ≤ 16777216 := by
  rcases n7 h with rfl | rfl | rfl | rfl | rfl | rfl | rfl <;> decide
theorem C115 {W : Wd} : Cw 115 [xR 0] 10 W W.twins := by
  intro g h C d Q hQ
  have C0 := C
  obtain ⟨l, r, l2, r2, C1, C2, C3, C4, C5, C6, C7⟩ := C
  have O := C7.O
  have S := C7.S
  have h6 := O.nq
  have r := all_rng O sq_r
  obtain ⟨s1, s2, s3⟩ := shl_256 h6
  unfold Wd.twins Wd.frac at hQ
  rw [if_neg (show ¬ (256 : Int) ^ W.cur.nq.toNat = 0 by omega)] at hQ
  rw [E115, ga C3.k0, C3.p4, ga S.k0, S.pl]
  have z := S149 S.L O W.cur.nq.toNat 0 0 (d + 9 - 3 - W.cur.nq.toNat) (fun r g1 h1 => Rn (d + 9) 115 14 [xR 0] (r.toList ++ [xR 0]) g1 h1 Q) (by omega) (row_0 O)
  rw [show d + 9 - 3 - W.cur.nq.toNat + W.cur.nq.toNat + 3 = d + 9 by omega] at z
  refine z ?_
  rw [o1, List.cons_append, List.nil_append, B115_14, ga C3.k0, C3.p4, ga S.k0, S.pl, ga S.L.k0, S.L.nq, w32_id (by omega) (by omega), ga (by omega), ga C3.k0, s1]
  refine S137 C3.k0 r.1 (Int.lt_of_le_of_lt r.2 (by decide)) s2 (by omega) ?_
  simp only [o1, o0, List.cons_append, List.nil_append, B115_32, g11]
  exact ctl C0 hQ
theorem C116 {W : Wd} {t : Int} : Cw 116 [xR 0, xI t] 10 W (W.strange t) := by
  intro g h C d Q hQ
  have C0 := C
  obtain ⟨l, r, l2, r2, C1, C2, C3, C4, C5, C6, C7⟩ := C
  have O := C7.O
  have S := C7.S
  have h6 := O.nq
  obtain ⟨s1, s2, s3⟩ := shl_16 h6
  have r := all_rng O (blw_r t)
  unfold Wd.strange at hQ
  rw [E116, S146]
  by_cases ht : 0 ≤ t ∧ t ≤ 99999999
  · unfold Wd.frac at hQ
    rw [if_pos ht, if_neg (show ¬ (16 : Int) ^ W.cur.nq.toNat = 0 by omega)] at hQ
    rw [bzt ht, o1, List.cons_append, List.nil_append, B116_9, if_pos (by decide), ga C3.k0, C3.p4, ga S.k0, S.pl]
    have z := S150 (t := t) S.L O W.cur.nq.toNat 0 0 (d + 9 - 3 - W.cur.nq.toNat) (fun r g1 h1 => Rn (d + 9) 116 33 [xR 0, xI t] (r.toList ++ [xR 0]) g1 h1 Q) (by omega) (row_0 O)
    rw [show d + 9 - 3 - W.cur.nq.toNat + W.cur.nq.toNat + 3 = d + 9 by omega] at z
    refine z ?_
    rw [o1, List.cons_append, List.nil_append, B116_33, ga C3.k0, C3.p4, ga S.k0, S.pl, ga S.L.k0, S.L.nq, w32_id (by omega) (by omega), ga (by omega), ga C3.k0, s1]
    refine S137 C3.k0 r.1 (Int.lt_of_le_of_lt r.2 (by decide)) s2 (by omega) ?_
    simp only [o1, o0, List.cons_append, List.nil_append, B116_50, g11]
    exact ctl C0 hQ
  · rw [if_neg ht] at hQ
    rw [bzf ht, o1, List.cons_append, List.nil_append, B116_9, if_neg (by decide), ga C3.k0]
    simp only [S133 (k := C3.k0), S134 (k := C3.k0), S135 (k := C3.k0), S136 (k := C3.k0), o1, o0, List.cons_append, List.nil_append, B116_17, g01]
    exact cst C0 hQ
