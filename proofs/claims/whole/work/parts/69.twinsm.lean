/-! twins, strange, on the model's side: rows by number -/
theorem S204a {g : KG} {h : KH} {A : St} (K : MK g h) (M : MS (h 139) A) (O : A.Ok) {q : Int} (hq : inq A q) {d : Nat} {Q : Option KV → KG → KH → Prop} : Cl (d + 1) 204 [xR 138, xI q] g h Q = Q (some (xI (A.ch q))) g h := by
  have hn := O.nq
  have h0 := hq.1
  have h1 := hq.2
  simp (disch := omega) only [E204, K.k0, K.pat, K.kat, K.lat, M.ch q hq, true_and, ga, w32_id]
theorem S231 {g : KG} {h : KH} {A : St} (K : MK g h) (M : MS (h 139) A) (O : A.Ok) {d : Nat} {Q : Option KV → KG → KH → Prop} (hQ : Q (some (xI (A.nrw A.nq.toNat 0 : Nat))) g h) : Cl (d + 2) 231 [xR 138] g h Q := by
  have h6 := O.nq
  have g2 : gK g 139 = 20 ∧ 0 ≤ (0 : Int) ∧ (0 : Int) < gL g 139 := ⟨K.kat, by decide, by rw [K.lat]; decide⟩
  have hb := nrw_r O A.nq.toNat 0 (by omega)
  have h46 := p46 (n := A.nq.toNat) (by omega)
  have lp : ∀ n q : Nat, q + n = A.nq.toNat → ∀ acc : Nat, 1 ≤ acc → acc * A.nrw n q = A.nrw A.nq.toNat 0 → Rn (d + 1) 231 4 [xR 138, xI (acc : Int), xI (q : Int)] [] g h Q := by
    intro n
    induction n with
    | zero =>
      intro q hq acc ha he
      rw [St.nrw, Nat.mul_one] at he
      rw [B231_4, ga K.k0, K.pat, ga g2, M.nq, if_pos (by omega), he]
      exact hQ
    | succ n ih =>
      intro q hq acc ha he
      have hi : inq A q := ⟨by omega, by omega⟩
      have e1 : ((q : Int) + 1) = ((q + 1 : Nat) : Int) := by omega
      have c := O.ch q hi
      have nr := nrw_r O n (q + 1) (by omega)
      rw [St.nrw, ← Nat.mul_assoc] at he
      have hle : acc * (A.ch q).toNat ≤ A.nrw A.nq.toNat 0 := by
        rw [← he]; exact Nat.le_mul_of_pos_right _ nr.1
      have e2 : (acc : Int) * A.ch q = ((acc * (A.ch q).toNat : Nat) : Int) := by
        rw [Int.natCast_mul]; congr 1; omega
      rw [B231_4, ga K.k0, K.pat, ga g2, M.nq, if_neg (by omega), ga K.k0, S204a K M O hi, o1, List.cons_append, List.nil_append, B231_20, e2, w32_id (by omega) (by omega), w32_id (by omega) (by omega), e1]
      exact ih (q + 1) (by omega) _ (Nat.mul_pos ha (by omega)) he
  rw [E231]
  exact lp A.nq.toNat 0 (by omega) 1 (Nat.le_refl _) (by rw [Nat.one_mul])
theorem S232 {g : KG} {h : KH} {A : St} (K : MK g h) (M : MS (h 139) A) (O : A.Ok) {k : Nat} (hk : k < A.nrw A.nq.toNat 0) {d : Nat} {Q : Option KV → KG → KH → Prop} (hQ : ∀ h2 : KH, RowAt g h2 A 149 0 (A.pk A.nq.toNat 0 k 0) → (∀ c, c ≠ 149 → h2 c = h c) → Q none g h2) : Cl (d + 2) 232 [xR 138, xI (k : Int)] g h Q := by
  have h6 := O.nq
  have g2 : gK g 139 = 20 ∧ 0 ≤ (0 : Int) ∧ (0 : Int) < gL g 139 := ⟨K.kat, by decide, by rw [K.lat]; decide⟩
  have hb := nrw_r O A.nq.toNat 0 (by omega)
  have h46 := p46 (n := A.nq.toNat) (by omega)
  have lp : ∀ n m : Nat, m + n = A.nq.toNat → ∀ h1 : KH, (∀ c, c ≠ 149 → h1 c = h c) → (∀ j : Nat, n ≤ j → j < A.nq.toNat → h1 149 j = ((k / A.nrw (A.nq.toNat - 1 - j) (j + 1) % (A.ch j).toNat : Nat) : Int)) → Rn (d + 1) 232 11 [xR 138, xI (k : Int), xI ((k / A.nrw m n : Nat) : Int), xI ((n : Int) - 1)] [] g h1 Q := by
    intro n
    induction n with
    | zero =>
      intro m hm h1 q1 q2
      rw [B232_11, if_pos (by omega)]
      refine hQ h1 ⟨K.k149, Int.le_refl 0, by decide, by rw [K.l149]; omega, fun q hq => ?_⟩ q1
      have q0 := hq.1
      have q3 := hq.2
      have z := q2 q.toNat (by omega) (by omega)
      have y := pk_dg O A.nq.toNat 0 k 0 (by omega) (row_0 O) hk q.toNat (by omega) (by omega)
      have e : ((q.toNat : Nat) : Int) = q := by omega
      have e2 : 0 + A.nq.toNat - 1 - q.toNat = A.nq.toNat - 1 - q.toNat := by omega
      rw [e] at z y
      rw [e2] at y
      rw [Int.zero_add, z, y]
    | succ n ih =>
      intro m hm h1 q1 q2
      have hi : inq A n := ⟨by omega, by omega⟩
      have c := O.ch n hi
      have e0 : (((n + 1 : Nat) : Int) - 1) = (n : Int) := by omega
      have e4 : (n : Int) + -1 = (n : Int) - 1 := by omega
      have K1 : MK g h1 := K.keep (fun j _ => by rw [q1 138 (by decide)])
      have M1 : MS (h1 139) A := by rw [q1 139 (by decide)]; exact M
      have v0 : 0 ≤ ((k / A.nrw m (n + 1) : Nat) : Int) := Int.natCast_nonneg _
      have vle : k / A.nrw m (n + 1) ≤ k := Nat.div_le_self _ _
      have ec : A.ch n = (((A.ch n).toNat : Nat) : Int) := by omega
      have em : Int.tmod ((k / A.nrw m (n + 1) : Nat) : Int) (A.ch n) = ((k / A.nrw m (n + 1) % (A.ch n).toNat : Nat) : Int) := by
        rw [Int.tmod_eq_emod_of_nonneg v0, ec]; rfl
      have ed : Int.tdiv ((k / A.nrw m (n + 1) : Nat) : Int) (A.ch n) = ((k / A.nrw (m + 1) n : Nat) : Int) := by
        rw [Int.tdiv_eq_ediv_of_nonneg v0, ec, St.nrw, Nat.mul_comm, ← Nat.div_div_eq_div_mul]; rfl
      have dle : k / A.nrw (m + 1) n ≤ k := Nat.div_le_self _ _
      have v1 : 0 ≤ ((k / A.nrw (m + 1) n : Nat) : Int) := Int.natCast_nonneg _
      have z9 : ∀ x : Int, (hset h1 149 n x) 138 = h1 138 := fun x => hset_a _ _ _ (by decide)
      have M2 : ∀ x : Int, MS ((hset h1 149 n x) 139) A := fun x => by rw [hset_a _ _ _ (by decide)]; exact M1
      have K2 : ∀ x : Int, MK g (hset h1 149 n x) := fun x => K1.keep (fun j _ => by rw [z9])
      rw [B232_11, e0, if_neg (by omega), ga K.k0, ga K.k0, S204a K1 M1 O hi, o1, List.cons_append, List.nil_append, B232_26, ga (by omega), K1.p31, ga ⟨K.k149, by decide, by omega, by rw [K.l149]; omega⟩, ga K.k0, S204a (K2 _) (M2 _) O hi, o1, List.cons_append, List.nil_append, B232_34, ga (by omega), em, ed, w32_id (by omega) (by omega), w32_id (by omega) (by omega), e4]
      refine ih (m + 1) (by omega) _ (fun c hc => by rw [hset_a _ _ _ hc, q1 c hc]) (fun j j0 j1 => ?_)
      by_cases hj : j = n
      · subst hj
        rw [hset_e, show A.nq.toNat - 1 - j = m by omega]
      · rw [hset_i _ _ (by omega)]; exact q2 j (by omega) j1
  have e : k / A.nrw 0 A.nq.toNat = k := Nat.div_one k
  have z := lp A.nq.toNat 0 (by omega) h (fun _ _ => rfl) (fun j j0 j1 => by omega)
  rw [e] at z
  rw [E232, ga K.k0, K.pat, ga g2, M.nq, w32_id (by omega) (by omega), show A.nq - 1 = ((A.nq.toNat : Nat) : Int) - 1 by omega]
  exact z
theorem S233 {g : KG} {h : KH} {A : St} (K : MK g h) (M : MS (h 139) A) (O : A.Ok) {b : Int} (hb : 1 ≤ b ∧ b ≤ 256) {d : Nat} {Q : Option KV → KG → KH → Prop} (hQ : Q (some (xL (b ^ A.nq.toNat))) g h) : Cl (d + 1) 233 [xR 138, xI b] g h Q := by
  have h6 := O.nq
  have g2 : gK g 139 = 20 ∧ 0 ≤ (0 : Int) ∧ (0 : Int) < gL g 139 := ⟨K.kat, by decide, by rw [K.lat]; decide⟩
  have pr : ∀ n : Nat, 1 ≤ b ^ n ∧ b ^ n ≤ 256 ^ n := by
    intro n
    induction n with
    | zero => exact ⟨by rw [Int.pow_zero]; decide, by rw [Int.pow_zero, Int.pow_zero]; decide⟩
    | succ n ih =>
      rw [Int.pow_succ, Int.pow_succ]
      refine ⟨?_, Int.mul_le_mul ih.2 hb.2 (by omega) (by omega)⟩
      have := Int.mul_le_mul ih.1 hb.1 (by decide) (by omega)
      omega
  have p256 : ∀ n : Nat, n ≤ 6 → (256 : Int) ^ n ≤ 281474976710656 := by
    intro n hn
    have : n = 0 ∨ n = 1 ∨ n = 2 ∨ n = 3 ∨ n = 4 ∨ n = 5 ∨ n = 6 := by omega
    rcases this with rfl | rfl | rfl | rfl | rfl | rfl | rfl <;> decide
  have lp : ∀ n q : Nat, q + n = A.nq.toNat → Rn d 233 5 [xR 138, xI b, xL (b ^ q), xU, xI (q : Int)] [] g h Q := by
    intro n
    induction n with
    | zero =>
      intro q hq
      have hq : q = A.nq.toNat := by omega
      rw [B233_5, ga K.k0, K.pat, ga g2, M.nq, if_pos (by omega), hq]
      exact hQ
    | succ n ih =>
      intro q hq
      have e1 : ((q : Int) + 1) = ((q + 1 : Nat) : Int) := by omega
      have r : 1 ≤ b ^ (q + 1) ∧ b ^ (q + 1) ≤ 281474976710656 := ⟨(pr (q + 1)).1, Int.le_trans (pr (q + 1)).2 (p256 (q + 1) (by omega))⟩
      have nx := ih (q + 1) (by omega)
      rw [B233_5, ga K.k0, K.pat, ga g2, M.nq, if_neg (by omega), ← Int.pow_succ]
      clear ih pr p256 hQ
      generalize b ^ (q + 1) = z at *
      rw [w64_id (by omega) (by omega), w32_id (by omega) (by omega), e1]
      exact nx
  have z := lp A.nq.toNat 0 (by omega)
  rw [Int.pow_zero] at z
  rw [E233]
  exact z
theorem all_sum {A : St} (O : A.Ok) (f : Int → Int) : A.all f = sumN (fun k => f (A.prod A.nq (A.pk A.nq.toNat 0 k 0))) (A.nrw A.nq.toNat 0) := by
  have z := tre_eq O f A.nq.toNat 0 0 (by omega) (row_0 O)
  exact z
theorem sum_part {A : St} (O : A.Ok) {f : Int → Int} (H : ∀ w, 0 ≤ w → w ≤ 16777216 → 0 ≤ f w ∧ f w ≤ 281474976710656) {k : Nat} (hk : k ≤ A.nrw A.nq.toNat 0) : 0 ≤ sumN (fun k => f (A.prod A.nq (A.pk A.nq.toNat 0 k 0))) k ∧ sumN (fun k => f (A.prod A.nq (A.pk A.nq.toNat 0 k 0))) k ≤ 1152921504606846976 := by
  have h6 := O.nq
  have hb := nrw_r O A.nq.toNat 0 (by omega)
  have h46 := p46 (n := A.nq.toNat) (by omega)
  have s := sumN_r (g := fun k => f (A.prod A.nq (A.pk A.nq.toNat 0 k 0))) (b := 281474976710656) k (fun j hj => by
    have p := O.prod (pk_row O A.nq.toNat 0 j 0 (by omega) (row_0 O) (by omega)) A.nq
    exact H _ p.1 p.2)
  omega
theorem C234 {W : Wd} : Mw 234 [xR 138] 5 W W.twins := by
  intro g h C O d Q hQ
  have K := C.1
  have M := C.2.2.cur
  have h6 := O.nq
  have hb := nrw_r O W.cur.nq.toNat 0 (by omega)
  have h46 := p46 (n := W.cur.nq.toNat) (by omega)
  have g2 : gK g 139 = 20 ∧ 0 ≤ (0 : Int) ∧ (0 : Int) < gL g 139 := ⟨K.kat, by decide, by rw [K.lat]; decide⟩
  obtain ⟨s1, s2, s3⟩ := shl_256 h6
  unfold Wd.twins Wd.frac at hQ
  rw [if_neg (show ¬ (256 : Int) ^ W.cur.nq.toNat = 0 by omega)] at hQ
  have lp : ∀ n k : Nat, k + n = W.cur.nrw W.cur.nq.toNat 0 → ∀ (h1 : KH) (x : KV), (∀ c, c ≠ 149 → h1 c = h c) → Rn (d + 4) 234 4 [xR 138, xL (sumN (fun k => sq (W.cur.prod W.cur.nq (W.cur.pk W.cur.nq.toNat 0 k 0))) k), xU, xI (k : Int), x, xU] [] g h1 Q := by
    intro n
    induction n with
    | zero =>
      intro k hk h1 x q1
      have hk : k = W.cur.nrw W.cur.nq.toNat 0 := by omega
      have y138 := q1 138 (by decide)
      have K1 : MK g h1 := K.keep (fun j _ => by rw [y138])
      have M1 : MS (h1 139) W.cur := by rw [q1 139 (by decide)]; exact M
      have r := sum_part O sq_r (k := k) (by omega)
      rw [B234_4, ga K.k0]
      refine S231 K1 M1 O ?_
      rw [o1, List.cons_append, List.nil_append, B234_9, if_pos (by omega), ga K.k0]
      refine S233 K1 M1 O (by decide) ?_
      rw [o1, List.cons_append, List.nil_append, B234_57, ga K.k0]
      refine S163 K.k0 r.1 (by omega) s2 (by omega) ?_
      simp only [o1, o0, List.cons_append, List.nil_append, B234_60, g11]
      rw [hk, ← all_sum O]
      exact mtl C (fun a a0 a1 a2 => q1 a (by omega)) (fun j _ => by rw [y138]) (fun a ha => q1 a (by omega)) hQ
    | succ n ih =>
      intro k hk h1 x q1
      have y138 := q1 138 (by decide)
      have K1 : MK g h1 := K.keep (fun j _ => by rw [y138])
      have M1 : MS (h1 139) W.cur := by rw [q1 139 (by decide)]; exact M
      have e1 : ((k : Int) + 1) = ((k + 1 : Nat) : Int) := by omega
      have hr := pk_row O W.cur.nq.toNat 0 k 0 (by omega) (row_0 O) (by omega)
      have r := sum_part O sq_r (k := k) (by omega)
      have r2 := sum_part O sq_r (k := k + 1) (by omega)
      have nx := ih (k + 1) (by omega)
      rw [sumN] at nx r2
      have wp := O.prod hr W.cur.nq
      have ws := sq_r _ wp.1 wp.2
      rw [B234_4, ga K.k0]
      refine S231 K1 M1 O ?_
      rw [o1, List.cons_append, List.nil_append, B234_9, if_neg (by omega), ga K.k0]
      refine S232 K1 M1 O (by omega) (fun h2 R2 f2 => ?_)
      have z138 : h2 138 = h1 138 := f2 138 (by decide)
      have K2 : MK g h2 := K1.keep (fun j _ => by rw [z138])
      have M2 : MS (h2 139) W.cur := by rw [f2 139 (by decide)]; exact M1
      rw [o0, List.nil_append, B234_17, ga K.k0, ga K.k0, K2.pat, ga g2, ga K.k0, K2.p31, M2.nq]
      refine S214 K2 M2 O hr R2 ?_
      rw [o1, List.cons_append, List.nil_append, B234_32]
      rw [show W.cur.prod W.cur.nq (W.cur.pk W.cur.nq.toNat 0 k 0) * W.cur.prod W.cur.nq (W.cur.pk W.cur.nq.toNat 0 k 0) = sq (W.cur.prod W.cur.nq (W.cur.pk W.cur.nq.toNat 0 k 0)) from rfl, w64_id (x := sq _) (by omega) (by omega), w64_id (by omega) (by omega), w32_id (by omega) (by omega), e1]
      exact nx h2 _ (fun c hc => by rw [f2 c hc, q1 c hc])
  rw [E234]
  exact lp (W.cur.nrw W.cur.nq.toNat 0) 0 (by omega) h _ (fun _ _ => rfl)
theorem C235 {W : Wd} {t : Int} : Mw 235 [xR 138, xI t] 5 W (W.strange t) := by
  intro g h C O d Q hQ
  have K := C.1
  have M := C.2.2.cur
  have h6 := O.nq
  have hb := nrw_r O W.cur.nq.toNat 0 (by omega)
  have h46 := p46 (n := W.cur.nq.toNat) (by omega)
  have g2 : gK g 139 = 20 ∧ 0 ≤ (0 : Int) ∧ (0 : Int) < gL g 139 := ⟨K.kat, by decide, by rw [K.lat]; decide⟩
  obtain ⟨s1, s2, s3⟩ := shl_16 h6
  unfold Wd.strange at hQ
  have no : ¬ (0 ≤ t ∧ t ≤ 99999999) → Rn (d + 4) 235 11 [xR 138, xI t, xU, xU, xU, xU, xU] [] g h Q := by
    intro z
    rw [if_neg z] at hQ
    rw [B235_11, ga K.k0]
    simp only [S160 (k := K.k0), S161 (k := K.k0), S162 (k := K.k0), o1, o0, List.cons_append, List.nil_append, B235_16, ite_not, bzF, bzT, if_true, if_false, ↓reduceIte, Int.reduceEq, Int.reduceLE, Int.reduceLT, Int.reduceNeg, ne_eq, not_true_eq_false, not_false_eq_true, and_self, and_true, true_and, and_false, false_and, eq_self, g01]
    exact mst C hQ
  rw [E235]
  by_cases t0 : t < 0
  · rw [if_pos t0]; exact no (by omega)
  by_cases t1 : t ≤ 99999999
  · rw [if_neg t0, if_pos t1]
    unfold Wd.frac at hQ
    rw [if_pos ⟨by omega, t1⟩, if_neg (show ¬ (16 : Int) ^ W.cur.nq.toNat = 0 by omega)] at hQ
    have lp : ∀ n k : Nat, k + n = W.cur.nrw W.cur.nq.toNat 0 → ∀ (h1 : KH) (x : KV), (∀ c, c ≠ 149 → h1 c = h c) → Rn (d + 4) 235 22 [xR 138, xI t, xL (sumN (fun k => blw t (W.cur.prod W.cur.nq (W.cur.pk W.cur.nq.toNat 0 k 0))) k), xU, xI (k : Int), x, xU] [] g h1 Q := by
      intro n
      induction n with
      | zero =>
        intro k hk h1 x q1
        have hk : k = W.cur.nrw W.cur.nq.toNat 0 := by omega
        have y138 := q1 138 (by decide)
        have K1 : MK g h1 := K.keep (fun j _ => by rw [y138])
        have M1 : MS (h1 139) W.cur := by rw [q1 139 (by decide)]; exact M
        have r := sum_part O (blw_r t) (k := k) (by omega)
        rw [B235_22, ga K.k0]
        refine S231 K1 M1 O ?_
        rw [o1, List.cons_append, List.nil_append, B235_28, if_pos (by omega), ga K.k0]
        refine S233 K1 M1 O (by decide) ?_
        rw [o1, List.cons_append, List.nil_append, B235_85, ga K.k0]
        refine S163 K.k0 r.1 (by omega) s2 (by omega) ?_
        simp only [o1, o0, List.cons_append, List.nil_append, B235_88, g11]
        rw [hk, ← all_sum O]
        exact mtl C (fun a a0 a1 a2 => q1 a (by omega)) (fun j _ => by rw [y138]) (fun a ha => q1 a (by omega)) hQ
      | succ n ih =>
        intro k hk h1 x q1
        have y138 := q1 138 (by decide)
        have K1 : MK g h1 := K.keep (fun j _ => by rw [y138])
        have M1 : MS (h1 139) W.cur := by rw [q1 139 (by decide)]; exact M
        have e1 : ((k : Int) + 1) = ((k + 1 : Nat) : Int) := by omega
        have hr := pk_row O W.cur.nq.toNat 0 k 0 (by omega) (row_0 O) (by omega)
        have r := sum_part O (blw_r t) (k := k) (by omega)
        have r2 := sum_part O (blw_r t) (k := k + 1) (by omega)
        have nx := ih (k + 1) (by omega)
        rw [sumN] at nx r2
        have wp := O.prod hr W.cur.nq
        have fin : ∀ (h2 : KH) (v : Int), (∀ c, c ≠ 149 → h2 c = h c) → v = blw t (W.cur.prod W.cur.nq (W.cur.pk W.cur.nq.toNat 0 k 0)) → Rn (d + 4) 235 69 [xR 138, xI t, xL (sumN (fun k => blw t (W.cur.prod W.cur.nq (W.cur.pk W.cur.nq.toNat 0 k 0))) k), xU, xI (k : Int), xL (W.cur.prod W.cur.nq (W.cur.pk W.cur.nq.toNat 0 k 0)), xU] [xL v, xL (sumN (fun k => blw t (W.cur.prod W.cur.nq (W.cur.pk W.cur.nq.toNat 0 k 0))) k)] g h2 Q := by
          intro h2 v f2 hv
          rw [B235_69, hv, w64_id (by omega) (by omega), w32_id (by omega) (by omega), e1]
          exact nx h2 _ f2
        rw [B235_22, ga K.k0]
        refine S231 K1 M1 O ?_
        rw [o1, List.cons_append, List.nil_append, B235_28, if_neg (by omega), ga K.k0]
        refine S232 K1 M1 O (by omega) (fun h2 R2 f2 => ?_)
        have z138 : h2 138 = h1 138 := f2 138 (by decide)
        have K2 : MK g h2 := K1.keep (fun j _ => by rw [z138])
        have M2 : MS (h2 139) W.cur := by rw [f2 139 (by decide)]; exact M1
        rw [o0, List.nil_append, B235_37, ga K.k0, ga K.k0, K2.pat, ga g2, ga K.k0, K2.p31, M2.nq]
        refine S214 K2 M2 O hr R2 ?_
        rw [o1, List.cons_append, List.nil_append, B235_52]
        simp only [c64ge]
        by_cases hc : t ≤ W.cur.prod W.cur.nq (W.cur.pk W.cur.nq.toNat 0 k 0)
        · rw [if_pos hc]
          exact fin h2 0 (fun c hc => by rw [f2 c hc, q1 c hc]) (by unfold blw; rw [if_neg (by omega)])
        · rw [if_neg hc]
          exact fin h2 _ (fun c hc => by rw [f2 c hc, q1 c hc]) (by unfold blw; rw [if_pos (by omega)])
    exact lp (W.cur.nrw W.cur.nq.toNat 0) 0 (by omega) h _ (fun _ _ => rfl)
  · rw [if_neg t0, if_neg t1]; exact no (by omega)
