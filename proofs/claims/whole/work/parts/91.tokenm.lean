/-! TOKENS, on the model's side -/
def uby (c : Int) : Int := if c < 0 then c + 256 else c
theorem and_255 {c : Int} (h : -128 ≤ c ∧ c ≤ 127) : and32 c 255 = uby c := by
  have a : ∀ k : Nat, k < 256 → and32 ((k : Int) - 128) 255 = uby ((k : Int) - 128) := by decide +kernel
  have b := a (c + 128).toNat (by omega)
  rw [show (((c + 128).toNat : Nat) : Int) - 128 = c by omega] at b
  exact b
def byt (t : Int → Int) (n : Nat) (k : Int) : Int := if (n : Int) ≤ k then -1 else uby (t k)
/-- the text that is read, in object 144 -/
def MT (h : KH) (t : Int → Int) (n : Nat) : Prop := (n ≤ 700) ∧ (h 138 10 = n) ∧ (∀ k : Nat, k < n → h 144 (k : Int) = t (k : Int)) ∧ (∀ k : Nat, k < n → -128 ≤ t (k : Int) ∧ t (k : Int) ≤ 127)
theorem MT.n7 {h : KH} {t : Int → Int} {n : Nat} (z_ : MT h t n) : n ≤ 700 := z_.1
theorem MT.sz {h : KH} {t : Int → Int} {n : Nat} (z_ : MT h t n) : h 138 10 = n := z_.2.1
theorem MT.tx {h : KH} {t : Int → Int} {n : Nat} (z_ : MT h t n) : ∀ k : Nat, k < n → h 144 (k : Int) = t (k : Int) := z_.2.2.1
theorem MT.bt {h : KH} {t : Int → Int} {n : Nat} (z_ : MT h t n) : ∀ k : Nat, k < n → -128 ≤ t (k : Int) ∧ t (k : Int) ≤ 127 := z_.2.2.2
theorem MT.keep {h h2 : KH} {t : Int → Int} {n : Nat} (M : MT h t n) (e : h2 138 10 = h 138 10) (e2 : h2 144 = h 144) : MT h2 t n := ⟨M.n7, by rw [e]; exact M.sz, by rw [e2]; exact M.tx, M.bt⟩
theorem S173 {g : KG} {h : KH} (K : MK g h) {t : Int → Int} {n : Nat} (M : MT h t n) {k : Nat} {d : Nat} {Q : Option KV → KG → KH → Prop} (hQ : Q (some (xI (byt t n k))) g h) : Cl (d + 1) 173 [xR 138, xI (k : Int)] g h Q := by
  have n7 := M.n7
  unfold byt at hQ
  rw [E173, ga K.k0, M.sz]
  by_cases z : (n : Int) ≤ k
  · rw [if_pos z] at hQ
    rw [if_pos z, B173_22]
    exact hQ
  · rw [if_neg z] at hQ
    rw [if_neg z, ga K.k0, K.p8, ga ⟨Or.inl K.k144, by omega, by rw [K.l144]; omega⟩, B173_22, M.tx k (by omega), and_255 (M.bt k (by omega))]
    exact hQ
theorem S174 {c : Int} {d : Nat} {g : KG} {h : KH} {Q : Option KV → KG → KH → Prop} (hQ : Q (some (xI (bz (97 ≤ c ∧ c ≤ 122)))) g h) : Cl (d + 1) 174 [xI c] g h Q := by
  rw [E174]
  by_cases h1 : c < 97
  · rw [bzf (by omega)] at hQ
    rw [if_pos h1, B174_16, B174_17, ga (by decide)]
    exact hQ
  · rw [if_neg h1]
    by_cases h2 : 122 < c
    · rw [bzf (by omega)] at hQ
      rw [if_pos h2, B174_16, B174_17, ga (by decide)]
      exact hQ
    · rw [bzt (by omega)] at hQ
      rw [if_neg h2, B174_17, ga (by decide)]
      exact hQ
theorem S175 {c : Int} {d : Nat} {g : KG} {h : KH} {Q : Option KV → KG → KH → Prop} (hQ : Q (some (xI (bz (48 ≤ c ∧ c ≤ 57)))) g h) : Cl (d + 1) 175 [xI c] g h Q := by
  rw [E175]
  by_cases h1 : c < 48
  · rw [bzf (by omega)] at hQ
    rw [if_pos h1, B175_16, B175_17, ga (by decide)]
    exact hQ
  · rw [if_neg h1]
    by_cases h2 : 57 < c
    · rw [bzf (by omega)] at hQ
      rw [if_pos h2, B175_16, B175_17, ga (by decide)]
      exact hQ
    · rw [bzt (by omega)] at hQ
      rw [if_neg h2, B175_17, ga (by decide)]
      exact hQ
def mkd (k : Int) : Int := if k = 0 then 0 else if k = 1 then 2 else if k = 2 then 3 else if k = 3 then 4 else 1
/-- the token at p, as the model holds it -/
def MU (f : Int → Int) (t : Int → Int) (n p : Nat) : Prop := (p ≤ n) ∧ (f 12 = p) ∧ (f 13 = (ed t n p : Nat)) ∧ (f 11 = mkd (kd t n p)) ∧ (kd t n p = 2 ∨ kd t n p = 3 → f 14 = nmv t n p)
theorem MU.pn {f : Int → Int} {t : Int → Int} {n p : Nat} (z_ : MU f t n p) : p ≤ n := z_.1
theorem MU.fr {f : Int → Int} {t : Int → Int} {n p : Nat} (z_ : MU f t n p) : f 12 = p := z_.2.1
theorem MU.en {f : Int → Int} {t : Int → Int} {n p : Nat} (z_ : MU f t n p) : f 13 = (ed t n p : Nat) := z_.2.2.1
theorem MU.tk {f : Int → Int} {t : Int → Int} {n p : Nat} (z_ : MU f t n p) : f 11 = mkd (kd t n p) := z_.2.2.2.1
theorem MU.vl {f : Int → Int} {t : Int → Int} {n p : Nat} (z_ : MU f t n p) : kd t n p = 2 ∨ kd t n p = 3 → f 14 = nmv t n p := z_.2.2.2.2
theorem A176 {g : KG} {h : KH} (K : MK g h) {t : Int → Int} {n q : Nat} (M : MT h t n) (qn : q ≤ n) (h13 : h 138 13 = q) {d : Nat} {Q : Option KV → KG → KH → Prop} (hQ : ∀ h2 : KH, (∀ a, a ≠ 138 → h2 a = h a) → (∀ j, (j < 11 ∨ 14 < j) → h2 138 j = h 138 j) → MU (h2 138) t n (skp t n q) → Q none g h2) : Cl (d + 2) 176 [xR 138] g h Q := by
  have n7 := M.n7
  have fin : ∀ p : Nat, p ≤ n → skp t n q = p → ∀ h1 : KH, (∀ a, a ≠ 138 → h1 a = h a) → (∀ j, (j < 11 ∨ 14 < j) → h1 138 j = h 138 j) → h1 138 12 = p → h1 138 13 = p → Rn (d + 1) 176 55 [xR 138, xU] [xI (byt t n p)] g h1 Q := by
    intro p pn ep h1 f1 j1 v12 v13
    rw [ep] at hQ
    rw [B176_55, ga K.k0]
    by_cases c0 : n ≤ p
    · have ek : kd t n p = 0 := kd_e c0
      have eb : byt t n p = -1 := by unfold byt; rw [if_pos (by omega)]
      rw [eb, if_neg (fun z => z rfl), ga K.k0, B176_245]
      refine hQ _ (fun a ha => by rw [hset_a _ _ _ ha, hset_a _ _ _ ha, f1 a ha]) (fun j hj => by rw [hset_i _ _ (by omega), hset_i _ _ (by omega), j1 j hj]) ⟨pn, ?_, ?_, ?_, fun z => by omega⟩
      · rw [hset_i _ _ (by decide), hset_i _ _ (by decide), v12]
      · rw [hset_i _ _ (by decide), hset_i _ _ (by decide), v13]; unfold ed; rw [if_pos c0]
      · rw [hset_e, ek]; rfl
    · have bp := M.bt p (by omega)
      have eb : byt t n p = uby (t p) := by unfold byt; rw [if_neg (by omega)]
      have up : (0 ≤ t p ∧ uby (t p) = t p) ∨ (t p < 0 ∧ uby (t p) = t p + 256) := by
        unfold uby; split <;> omega
      rw [eb, if_pos (by omega)]
      generalize eH : hset h1 138 14 (uby (t p)) = h2
      have f2 : ∀ a, a ≠ 138 → h2 a = h a := fun a ha => by rw [← eH, hset_a _ _ _ ha, f1 a ha]
      have j2 : ∀ j, (j < 11 ∨ 14 < j) → h2 138 j = h 138 j := fun j hj => by rw [← eH, hset_i _ _ (by omega), j1 j hj]
      have w12 : h2 138 12 = p := by rw [← eH, hset_i _ _ (by decide), v12]
      have w13 : h2 138 13 = p := by rw [← eH, hset_i _ _ (by decide), v13]
      have w14 : h2 138 14 = uby (t p) := by rw [← eH, hset_e]
      clear eH
      refine S174 ?_
      rw [o1, List.cons_append, List.nil_append, B176_78]
      by_cases c1 : ltr (t p) = true
      · have c1' := c1
        rw [ltr_i] at c1'
        have ek : kd t n p = 1 := by unfold kd; rw [if_neg c0, if_pos c1]
        have ee : ed t n p = rnt ltr t n p := by unfold ed; rw [if_neg c0, if_pos c1]
        have rr := rnt_r ltr t (n := n) (n - p) p (by omega)
        rw [bzt (by omega), if_neg (by decide)]
        have lp : ∀ m k : Nat, k + m = rnt ltr t n p → p ≤ k → ∀ h3 : KH, (∀ a, a ≠ 138 → h3 a = h a) → (∀ j, (j < 11 ∨ 14 < j) → h3 138 j = h 138 j) → h3 138 12 = p → h3 138 13 = k → Rn (d + 1) 176 81 [xR 138, xI (uby (t p))] [] g h3 Q := by
          intro m
          induction m with
          | zero =>
            intro k hk pk h3 f3 j3 x12 x13
            have hk : k = rnt ltr t n p := by omega
            have M3 : MT h3 t n := M.keep (j3 10 (by decide)) (f3 144 (by decide))
            have K3 : MK g h3 := K.keep (fun j hj => j3 j (by omega))
            rw [B176_81, ga K.k0, x13, ga K.k0]
            refine S173 K3 M3 ?_
            rw [o1, List.cons_append, List.nil_append, B176_89]
            refine S174 ?_
            rw [o1, List.cons_append, List.nil_append, B176_92]
            have z : ¬ (97 ≤ byt t n k ∧ byt t n k ≤ 122) := by
              unfold byt
              by_cases y : (n : Int) ≤ k
              · rw [if_pos y]; omega
              · rw [if_neg y]
                have b := M.bt k (by omega)
                have x := rr.2.2.2 (by omega)
                rw [← hk, ltr_i] at x
                unfold uby
                split <;> omega
            rw [bzf z, if_pos rfl, ga K.k0, B176_245]
            refine hQ _ (fun a ha => by rw [hset_a _ _ _ ha, f3 a ha]) (fun j hj => by rw [hset_i _ _ (by omega), j3 j hj]) ⟨pn, ?_, ?_, ?_, fun z => by omega⟩
            · rw [hset_i _ _ (by decide), x12]
            · rw [hset_i _ _ (by decide), x13, ee, hk]
            · rw [hset_e, ek]; rfl
          | succ m ih =>
            intro k hk pk h3 f3 j3 x12 x13
            have M3 : MT h3 t n := M.keep (j3 10 (by decide)) (f3 144 (by decide))
            have K3 : MK g h3 := K.keep (fun j hj => j3 j (by omega))
            rw [B176_81, ga K.k0, x13, ga K.k0]
            refine S173 K3 M3 ?_
            rw [o1, List.cons_append, List.nil_append, B176_89]
            refine S174 ?_
            rw [o1, List.cons_append, List.nil_append, B176_92]
            have z : 97 ≤ byt t n k ∧ byt t n k ≤ 122 := by
              unfold byt
              have x := rr.2.2.1 k pk (by omega)
              rw [ltr_i] at x
              rw [if_neg (by omega)]
              unfold uby
              split <;> omega
            rw [bzt z, if_neg (by decide), ga K.k0, ga K.k0, x13, w32_id (by omega) (by omega)]
            exact ih (k + 1) (by omega) (by omega) _ (fun a ha => by rw [hset_a _ _ _ ha, f3 a ha]) (fun j hj => by rw [hset_i _ _ (by omega), j3 j hj]) (by rw [hset_i _ _ (by decide), x12]) (by rw [hset_e]; omega)
        exact lp (rnt ltr t n p - p) p (by omega) (Nat.le_refl _) h2 f2 j2 w12 w13
      · have c1' := c1
        rw [ltr_i] at c1'
        rw [bzf (by omega), if_pos rfl]
        refine S175 ?_
        rw [o1, List.cons_append, List.nil_append, B176_120]
        by_cases c2 : dgt (t p) = true
        · have c2' := c2
          rw [dgt_i] at c2'
          have ek : kd t n p = if 4 < rnt dgt t n p - p then 4 else 2 := by unfold kd; rw [if_neg c0, if_neg c1, if_pos c2]
          have ee : ed t n p = rnt dgt t n p := by unfold ed; rw [if_neg c0, if_neg c1, if_pos c2]
          have rr := rnt_r dgt t (n := n) (n - p) p (by omega)
          rw [bzt (by omega), if_neg (by decide), ga K.k0]
          have lp : ∀ m k : Nat, p + k + m = rnt dgt t n p → ∀ h3 : KH, (∀ a, a ≠ 138 → h3 a = h a) → (∀ j, (j < 11 ∨ 14 < j) → h3 138 j = h 138 j) → h3 138 12 = p → h3 138 13 = ((p + k : Nat) : Int) → (k ≤ 4 → h3 138 14 = dgv t p k) → Rn (d + 1) 176 128 [xR 138, xI (uby (t p))] [] g h3 Q := by
            intro m
            induction m with
            | zero =>
              intro k hk h3 f3 j3 x12 x13 x14
              have M3 : MT h3 t n := M.keep (j3 10 (by decide)) (f3 144 (by decide))
              have K3 : MK g h3 := K.keep (fun j hj => j3 j (by omega))
              rw [B176_128, ga K.k0, x13, ga K.k0]
              refine S173 K3 M3 ?_
              rw [o1, List.cons_append, List.nil_append, B176_136]
              refine S175 ?_
              rw [o1, List.cons_append, List.nil_append, B176_139]
              have z : ¬ (48 ≤ byt t n ((p + k : Nat) : Int) ∧ byt t n ((p + k : Nat) : Int) ≤ 57) := by
                unfold byt
                by_cases y : (n : Int) ≤ ((p + k : Nat) : Int)
                · rw [if_pos y]; omega
                · rw [if_neg y]
                  have b := M.bt (p + k) (by omega)
                  have x := rr.2.2.2 (by omega)
                  rw [show rnt dgt t n p = p + k by omega, dgt_i] at x
                  unfold uby
                  split <;> omega
              rw [bzf z, if_pos rfl, ga K.k0, ga K.k0, x12, x13, w32_id (by omega) (by omega)]
              have last : ∀ v : Int, v = mkd (kd t n p) → Rn (d + 1) 176 202 [xR 138, xI (uby (t p))] [xI v, xR 138] g h3 Q := by
                intro v hv
                rw [B176_202, ga K.k0, B176_245]
                refine hQ _ (fun a ha => by rw [hset_a _ _ _ ha, f3 a ha]) (fun j hj => by rw [hset_i _ _ (by omega), j3 j hj]) ⟨pn, ?_, ?_, ?_, fun z => ?_⟩
                · rw [hset_i _ _ (by decide), x12]
                · rw [hset_i _ _ (by decide), x13, ee, ← hk, Nat.add_zero]
                · rw [hset_e, hv]
                · rw [hset_i _ _ (by decide)]
                  by_cases k4 : 4 < rnt dgt t n p - p
                  · rw [if_pos k4] at ek; omega
                  · rw [if_neg k4] at ek
                    unfold nmv
                    rw [if_pos ek, x14 (by omega), show rnt dgt t n p - p = k by omega]
              by_cases k4 : 4 < k
              · rw [if_pos (by omega)] at ek
                rw [if_neg (by omega)]
                exact last 1 (by rw [ek]; rfl)
              · rw [if_neg (by omega)] at ek
                rw [if_pos (by omega)]
                exact last 3 (by rw [ek]; rfl)
            | succ m ih =>
              intro k hk h3 f3 j3 x12 x13 x14
              have M3 : MT h3 t n := M.keep (j3 10 (by decide)) (f3 144 (by decide))
              have K3 : MK g h3 := K.keep (fun j hj => j3 j (by omega))
              have x := rr.2.2.1 (p + k) (by omega) (by omega)
              rw [dgt_i] at x
              have be : byt t n ((p + k : Nat) : Int) = t ((p + k : Nat) : Int) := by
                unfold byt
                rw [if_neg (by omega)]
                unfold uby
                rw [if_neg (by omega)]
              rw [B176_128, ga K.k0, x13, ga K.k0]
              refine S173 K3 M3 ?_
              rw [o1, List.cons_append, List.nil_append, B176_136]
              refine S175 ?_
              rw [o1, List.cons_append, List.nil_append, B176_139, be, bzt x, if_neg (by decide), ga K.k0, ga K.k0, x13, ga K.k0]
              refine S173 K3 M3 ?_
              rw [be, o1, List.cons_append, List.nil_append, B176_160, ga K.k0, ga K.k0, ga K.k0, B176_180, hset_i _ _ (by decide), x13, w32_id (x := ((p + k : Nat) : Int) + 1) (by omega) (by omega)]
              refine ih (k + 1) (by omega) _ (fun a ha => by rw [hset_a _ _ _ ha, hset_a _ _ _ ha, f3 a ha]) (fun j hj => by rw [hset_i _ _ (by omega), hset_i _ _ (by omega), j3 j hj]) (by rw [hset_i _ _ (by decide), hset_i _ _ (by decide), x12]) (by rw [hset_e]; omega) (fun z => ?_)
              have w := dgv_r t p k (fun i hi => by
                have y := rr.2.2.1 (p + i) (by omega) (by omega)
                rw [dgt_i] at y
                exact y)
              have w3 := p10 3 (by decide)
              have w4 : (10 : Int) ^ k ≤ 1000 := by
                have : ∀ k : Nat, k < 4 → (10 : Int) ^ k ≤ 1000 := by decide
                exact this k (by omega)
              rw [hset_i _ _ (by decide), hset_e, x14 (by omega), w32_id (x := 10 * dgv t p k) (by omega) (by omega), w32_id (x := 10 * dgv t p k + t ((p + k : Nat) : Int)) (by omega) (by omega), w32_id (by omega) (by omega), if_pos (by omega)]
              show _ = dgv t p k * 10 + t ((p + k : Nat) : Int) - 48
              omega
          exact lp (rnt dgt t n p - p) 0 (by omega) _ (fun a ha => by rw [hset_a _ _ _ ha, f2 a ha]) (fun j hj => by rw [hset_i _ _ (by omega), j2 j hj]) (by rw [hset_i _ _ (by decide), w12]) (by rw [hset_i _ _ (by decide), w13]; rfl) (fun _ => by rw [hset_e]; rfl)
        · have c2' := c2
          rw [dgt_i] at c2'
          have ek : kd t n p = if t p = 59 ∨ t p = 40 ∨ t p = 41 then 3 else 4 := by unfold kd; rw [if_neg c0, if_neg c1, if_neg c2]
          have ee : ed t n p = p + 1 := by unfold ed; rw [if_neg c0, if_neg c1, if_neg c2]
          have last : ∀ v : Int, v = mkd (kd t n p) → Rn (d + 1) 176 242 [xR 138, xI (uby (t p))] [xI v, xR 138] g (hset h2 138 13 ((p : Int) + 1)) Q := by
            intro v hv
            rw [B176_242, ga K.k0, B176_245]
            refine hQ _ (fun a ha => by rw [hset_a _ _ _ ha, hset_a _ _ _ ha, f2 a ha]) (fun j hj => by rw [hset_i _ _ (by omega), hset_i _ _ (by omega), j2 j hj]) ⟨pn, ?_, ?_, ?_, fun z => ?_⟩
            · rw [hset_i _ _ (by decide), hset_i _ _ (by decide), w12]
            · rw [hset_i _ _ (by decide), hset_e, ee]; omega
            · rw [hset_e, hv]
            · rw [hset_i _ _ (by decide), hset_i _ _ (by decide), w14]
              have y : t p = 59 ∨ t p = 40 ∨ t p = 41 := by
                by_cases y : t p = 59 ∨ t p = 40 ∨ t p = 41
                · exact y
                · rw [if_neg y] at ek; omega
              rw [if_pos y] at ek
              unfold nmv
              rw [if_neg (by omega)]
              omega
          rw [bzf (by omega), if_pos rfl, ga K.k0, ga K.k0, w13, w32_id (by omega) (by omega)]
          by_cases s1 : t p = 59
          · rw [if_pos (by omega), B176_237]
            exact last 4 (by rw [ek, if_pos (Or.inl s1)]; rfl)
          · rw [if_neg (by omega)]
            by_cases s2 : t p = 40
            · rw [if_pos (by omega), B176_237]
              exact last 4 (by rw [ek, if_pos (Or.inr (Or.inl s2))]; rfl)
            · rw [if_neg (by omega)]
              by_cases s3 : t p = 41
              · rw [if_neg (by omega), B176_237]
                exact last 4 (by rw [ek, if_pos (Or.inr (Or.inr s3))]; rfl)
              · rw [if_pos (by omega)]
                exact last 1 (by rw [ek, if_neg (by omega)]; rfl)
  have go : ∀ p : Nat, p ≤ n → ∀ h1 : KH, (∀ a, a ≠ 138 → h1 a = h a) → (∀ j, j ≠ 13 → h1 138 j = h 138 j) → h1 138 13 = p → (byt t n p ≠ 32 → byt t n p ≠ 10 → skp t n q = p) → (byt t n p = 32 ∨ byt t n p = 10 → Rn (d + 1) 176 26 [xR 138, xU] [] g h1 Q) → Rn (d + 1) 176 0 [xR 138, xU] [] g h1 Q := by
    intro p pn h1 f1 j1 v13 e1 e2
    have M1 : MT h1 t n := M.keep (j1 10 (by decide)) (f1 144 (by decide))
    have K1 : MK g h1 := K.keep (fun j hj => j1 j (by omega))
    rw [B176_0, ga K.k0, v13, ga K.k0]
    refine S173 K1 M1 ?_
    rw [o1, List.cons_append, List.nil_append, B176_8]
    by_cases a1 : byt t n p = 32
    · rw [if_pos a1]; exact e2 (Or.inl a1)
    · rw [if_neg a1, ga K.k0, v13, ga K.k0]
      refine S173 K1 M1 ?_
      rw [o1, List.cons_append, List.nil_append, B176_21]
      by_cases a2 : byt t n p = 10
      · rw [if_neg (fun z => z a2)]; exact e2 (Or.inr a2)
      · have x13 : hset h1 138 12 p 138 13 = p := by rw [hset_i _ _ (by decide), v13]
        have K2 : MK g (hset h1 138 12 (p : Int)) := K1.keep (fun j hj => hset_i _ _ (by omega))
        have M2 : MT (hset h1 138 12 (p : Int)) t n := M1.keep (hset_i _ _ (by decide)) (hset_a _ _ _ (by decide))
        rw [if_pos a2, ga K.k0, ga K.k0, ga K.k0, v13, x13, ga K.k0]
        refine S173 K2 M2 ?_
        rw [o1, List.cons_append, List.nil_append]
        exact fin p (by omega) (e1 a1 a2) _ (fun a ha => by rw [hset_a _ _ _ ha, f1 a ha]) (fun j hj => by rw [hset_i _ _ (by omega), j1 j (by omega)]) (hset_e _ _ _ _) x13
  have lp : ∀ m p : Nat, p + m = n → skp t n q = skp t n p → ∀ h1 : KH, (∀ a, a ≠ 138 → h1 a = h a) → (∀ j, j ≠ 13 → h1 138 j = h 138 j) → h1 138 13 = p → Rn (d + 1) 176 0 [xR 138, xU] [] g h1 Q := by
    intro m
    induction m with
    | zero =>
      intro p hp ep h1 f1 j1 v13
      have b : byt t n p = -1 := by unfold byt; rw [if_pos (by omega)]
      exact go p (by omega) h1 f1 j1 v13 (fun _ _ => by rw [ep]; unfold skp; rw [rnt_e (by omega)]) (fun z => by omega)
    | succ m ih =>
      intro p hp ep h1 f1 j1 v13
      have bp := M.bt p (by omega)
      have b : (0 ≤ t p ∧ byt t n p = t p) ∨ (t p < 0 ∧ byt t n p = t p + 256) := by
        unfold byt; rw [if_neg (by omega)]; unfold uby; split <;> omega
      refine go p (by omega) h1 f1 j1 v13 (fun z1 z2 => by rw [ep]; unfold skp; rw [rnt_n]; rw [wsp_i]; omega) (fun z => ?_)
      rw [B176_26, ga K.k0, ga K.k0, v13, w32_id (by omega) (by omega)]
      have ep2 : skp t n q = skp t n (p + 1) := by rw [ep]; unfold skp; rw [rnt_y (by omega)]; rw [wsp_i]; omega
      exact ih (p + 1) (by omega) ep2 _ (fun a ha => by rw [hset_a _ _ _ ha, f1 a ha]) (fun j hj => by rw [hset_i _ _ hj, j1 j hj]) (by rw [hset_e]; omega)
  rw [E176]
  exact lp (n - q) q (by omega) rfl h (fun _ _ => rfl) (fun _ _ => rfl) h13
