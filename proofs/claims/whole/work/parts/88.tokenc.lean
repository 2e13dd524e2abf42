/-! TOKENS, on the class's side: object 2, its text object 3 -/
def GT (g : KG) : Prop := (gK g 2 = 9) ∧ (gK g 3 = 22) ∧ (gL g 3 = 700)
theorem GT.k2 {g : KG} (z_ : GT g) : gK g 2 = 9 := z_.1
theorem GT.k3 {g : KG} (z_ : GT g) : gK g 3 = 22 := z_.2.1
theorem GT.l3 {g : KG} (z_ : GT g) : gL g 3 = 700 := z_.2.2
theorem GT.at_ {g : KG} (G : GT g) {q : Int} (h0 : 0 ≤ q) (h1 : q < 700) : (gK g 3 = 22 ∨ gK g 3 = 23) ∧ 0 ≤ q ∧ q < gL g 3 := ⟨Or.inl G.k3, h0, by rw [G.l3]; exact h1⟩
theorem S80 {g : KG} (G : GT g) {h : KH} {t : Int → Int} {n p : Nat} (n7 : n ≤ 700) (pn : p < n) (h0 : h 2 0 = 3) (h3 : ∀ k : Nat, k < n → h 3 (k : Int) = t (k : Int)) (h9 : h 2 9 = n) (h8 : h 2 8 = p) (h7 : h 2 7 = p) (h4 : h 2 4 = 0) (y : ltr (t p) = true) {d : Nat} {Q : Option KV → KG → KH → Prop} (hQ : ∀ h2 : KH, (∀ a, a ≠ 2 → h2 a = h a) → (∀ j, j ≠ 4 → j ≠ 6 → j ≠ 8 → h2 2 j = h 2 j) → h2 2 6 = 1 → h2 2 8 = (rnt ltr t n p : Nat) → h2 2 4 = (if rnt ltr t n p - p ≤ 8 then pkw t p (rnt ltr t n p - p) else 0) → Q none g h2) : Cl (d + 1) 80 [xR 2] g h Q := by
  have lp : ∀ m k : Nat, p + k + m = n → ∀ h1 : KH, (∀ a, a ≠ 2 → h1 a = h a) → (∀ j, j ≠ 4 → j ≠ 6 → j ≠ 8 → h1 2 j = h 2 j) → h1 2 6 = 1 → h1 2 8 = ((p + k : Nat) : Int) → (k ≤ 8 → h1 2 4 = pkw t p k) → (∀ i : Nat, i < k → 97 ≤ t ((p + i : Nat) : Int) ∧ t ((p + i : Nat) : Int) ≤ 122) → rnt ltr t n p = rnt ltr t n (p + k) → Rn d 80 5 [xR 2] [] g h1 Q := by
    have done : ∀ k : Nat, p + k ≤ n → ∀ h1 : KH, (∀ a, a ≠ 2 → h1 a = h a) → (∀ j, j ≠ 4 → j ≠ 6 → j ≠ 8 → h1 2 j = h 2 j) → h1 2 6 = 1 → h1 2 8 = ((p + k : Nat) : Int) → (k ≤ 8 → h1 2 4 = pkw t p k) → rnt ltr t n p = p + k → Rn d 80 79 [xR 2] [] g h1 Q := by
      intro k hk h1 f1 j1 k6 k8 k4 er
      have k7 : h1 2 7 = p := by rw [j1 7 (by decide) (by decide) (by decide), h7]
      rw [er] at hQ
      have e : p + k - p = k := by omega
      rw [e] at hQ
      rw [B80_79, ga G.k2, ga G.k2, k8, k7, w32_id (by omega) (by omega)]
      by_cases z : k ≤ 8
      · rw [if_pos z] at hQ
        rw [if_pos (by omega), B80_98]
        exact hQ h1 f1 j1 k6 k8 (k4 z)
      · rw [if_neg z] at hQ
        rw [if_neg (by omega), ga G.k2, B80_98]
        exact hQ _ (fun a ha => by rw [hset_a _ _ _ ha, f1 a ha]) (fun j a b c => by rw [hset_i _ _ a, j1 j a b c]) (by rw [hset_i _ _ (by decide), k6]) (by rw [hset_i _ _ (by decide), k8]) (hset_e _ _ _ _)
    intro m
    induction m with
    | zero =>
      intro k hk h1 f1 j1 k6 k8 k4 c4 er
      have k9 : h1 2 9 = n := by rw [j1 9 (by decide) (by decide) (by decide), h9]
      rw [B80_5, ga G.k2, ga G.k2, k9, k8, if_pos (by omega)]
      exact done k (by omega) h1 f1 j1 k6 k8 k4 (by rw [er, rnt_e (by omega)])
    | succ m ih =>
      intro k hk h1 f1 j1 k6 k8 k4 c4 er
      have k9 : h1 2 9 = n := by rw [j1 9 (by decide) (by decide) (by decide), h9]
      have k0 : h1 2 0 = 3 := by rw [j1 0 (by decide) (by decide) (by decide), h0]
      have k3 : h1 3 ((p + k : Nat) : Int) = t ((p + k : Nat) : Int) := by rw [f1 3 (by decide), h3 _ (by omega)]
      rw [B80_5, ga G.k2, ga G.k2, k9, k8, if_neg (by omega), ga G.k2, ga G.k2, k0, ga (G.at_ (by omega) (by omega)), k3]
      by_cases a1 : t ((p + k : Nat) : Int) < 97
      · rw [if_pos a1]
        exact done k (by omega) h1 f1 j1 k6 k8 k4 (by rw [er, rnt_n]; rw [ltr_i]; omega)
      · rw [if_neg a1, ga G.k2, ga G.k2, ga (G.at_ (by omega) (by omega))]
        by_cases a2 : 122 < t ((p + k : Nat) : Int)
        · rw [if_pos a2]
          exact done k (by omega) h1 f1 j1 k6 k8 k4 (by rw [er, rnt_n]; rw [ltr_i]; omega)
        · rw [if_neg a2, ga G.k2, ga (by decide), ga G.k2, ga G.k2, ga (G.at_ (by omega) (by omega)), ga G.k2, ga G.k2, ga G.k2, B80_76, hset_i _ _ (by decide), k8, w32_id (by omega) (by omega)]
          refine ih (k + 1) (by omega) _ (fun a ha => by rw [hset_a _ _ _ ha, hset_a _ _ _ ha, f1 a ha]) (fun j a b c => by rw [hset_i _ _ c, hset_i _ _ a, j1 j a b c]) (by rw [hset_i _ _ (by decide), hset_i _ _ (by decide), k6]) (by rw [hset_e]; omega) (fun z => ?_) (fun i hi => ?_) (by rw [er, rnt_y (by omega) (by rw [ltr_i]; omega)]; rfl)
          · rw [hset_i _ _ (by decide), hset_e, k4 (by omega)]
            have w := pkw_r t p k c4
            have w2 : k ≤ 7 → (256 : Int) ^ k ≤ 72057594037927936 := by
              intro hk
              have : ∀ k : Nat, k < 8 → (256 : Int) ^ k ≤ 72057594037927936 := by decide
              exact this k (by omega)
            have w3 := w2 (by omega)
            rw [or_64 w.1 (by omega) (by omega) (by omega)]
            rfl
          · by_cases e : i = k
            · rw [e]; omega
            · exact c4 i (by omega)
  rw [E80, ga G.k2]
  exact lp (n - p) 0 (by omega) _ (fun a ha => hset_a _ _ _ ha) (fun j a b c => hset_i _ _ b) (hset_e _ _ _ _) (by rw [hset_i _ _ (by decide), h8]; rfl) (fun _ => by rw [hset_i _ _ (by decide), h4]; rfl) (fun i hi => by omega) rfl
theorem S81 {g : KG} (G : GT g) {h : KH} {t : Int → Int} {n p : Nat} (n7 : n ≤ 700) (pn : p < n) (h0 : h 2 0 = 3) (h3 : ∀ k : Nat, k < n → h 3 (k : Int) = t (k : Int)) (h9 : h 2 9 = n) (h8 : h 2 8 = p) (h7 : h 2 7 = p) (h5 : h 2 5 = 0) {d : Nat} {Q : Option KV → KG → KH → Prop} (hQ : ∀ h2 : KH, (∀ a, a ≠ 2 → h2 a = h a) → (∀ j, j ≠ 5 → j ≠ 6 → j ≠ 8 → h2 2 j = h 2 j) → h2 2 6 = (if 4 < rnt dgt t n p - p then 4 else 2) → h2 2 8 = (rnt dgt t n p : Nat) → (rnt dgt t n p - p ≤ 4 → h2 2 5 = dgv t p (rnt dgt t n p - p)) → Q none g h2) : Cl (d + 1) 81 [xR 2] g h Q := by
  have lp : ∀ m k : Nat, p + k + m = n → ∀ h1 : KH, (∀ a, a ≠ 2 → h1 a = h a) → (∀ j, j ≠ 5 → j ≠ 6 → j ≠ 8 → h1 2 j = h 2 j) → h1 2 8 = ((p + k : Nat) : Int) → (k ≤ 4 → h1 2 5 = dgv t p k) → (∀ i : Nat, i < k → 48 ≤ t ((p + i : Nat) : Int) ∧ t ((p + i : Nat) : Int) ≤ 57) → rnt dgt t n p = rnt dgt t n (p + k) → Rn d 81 0 [xR 2] [] g h1 Q := by
    have done : ∀ k : Nat, p + k ≤ n → ∀ h1 : KH, (∀ a, a ≠ 2 → h1 a = h a) → (∀ j, j ≠ 5 → j ≠ 6 → j ≠ 8 → h1 2 j = h 2 j) → h1 2 8 = ((p + k : Nat) : Int) → (k ≤ 4 → h1 2 5 = dgv t p k) → rnt dgt t n p = p + k → Rn d 81 96 [xR 2] [] g h1 Q := by
      intro k hk h1 f1 j1 k8 k5 er
      have k7 : h1 2 7 = p := by rw [j1 7 (by decide) (by decide) (by decide), h7]
      rw [er] at hQ
      have e : p + k - p = k := by omega
      rw [e] at hQ
      rw [B81_96, ga G.k2, ga G.k2, k8, k7, w32_id (by omega) (by omega)]
      by_cases z : 4 < k
      · rw [if_pos z] at hQ
        rw [if_neg (by omega), B81_115, ga G.k2]
        exact hQ _ (fun a ha => by rw [hset_a _ _ _ ha, f1 a ha]) (fun j a b c => by rw [hset_i _ _ b, j1 j a b c]) (hset_e _ _ _ _) (by rw [hset_i _ _ (by decide), k8]) (fun y => by omega)
      · rw [if_neg z] at hQ
        rw [if_pos (by omega), B81_115, ga G.k2]
        exact hQ _ (fun a ha => by rw [hset_a _ _ _ ha, f1 a ha]) (fun j a b c => by rw [hset_i _ _ b, j1 j a b c]) (hset_e _ _ _ _) (by rw [hset_i _ _ (by decide), k8]) (fun y => by rw [hset_i _ _ (by decide), k5 y])
    intro m
    induction m with
    | zero =>
      intro k hk h1 f1 j1 k8 k4 c4 er
      have k9 : h1 2 9 = n := by rw [j1 9 (by decide) (by decide) (by decide), h9]
      rw [B81_0, ga G.k2, ga G.k2, k9, k8, if_pos (by omega)]
      exact done k (by omega) h1 f1 j1 k8 k4 (by rw [er, rnt_e (by omega)])
    | succ m ih =>
      intro k hk h1 f1 j1 k8 k4 c4 er
      have k9 : h1 2 9 = n := by rw [j1 9 (by decide) (by decide) (by decide), h9]
      have k0 : h1 2 0 = 3 := by rw [j1 0 (by decide) (by decide) (by decide), h0]
      have k7 : h1 2 7 = p := by rw [j1 7 (by decide) (by decide) (by decide), h7]
      have k3 : h1 3 ((p + k : Nat) : Int) = t ((p + k : Nat) : Int) := by rw [f1 3 (by decide), h3 _ (by omega)]
      rw [B81_0, ga G.k2, ga G.k2, k9, k8, if_neg (by omega), ga G.k2, ga G.k2, k0, ga (G.at_ (by omega) (by omega)), k3]
      by_cases a1 : t ((p + k : Nat) : Int) < 48
      · rw [if_pos a1]
        exact done k (by omega) h1 f1 j1 k8 k4 (by rw [er, rnt_n]; rw [dgt_i]; omega)
      · rw [if_neg a1, ga G.k2, ga G.k2, ga (G.at_ (by omega) (by omega))]
        by_cases a2 : 57 < t ((p + k : Nat) : Int)
        · rw [if_pos a2]
          exact done k (by omega) h1 f1 j1 k8 k4 (by rw [er, rnt_n]; rw [dgt_i]; omega)
        · have nx : ∀ v : Int, (k + 1 ≤ 4 → v = dgv t p (k + 1)) → Rn d 81 80 [xR 2] [xI v, xR 2] g h1 Q := by
            intro v hv
            rw [B81_80, ga G.k2, ga G.k2, ga G.k2, hset_i _ _ (by decide), k8, w32_id (by omega) (by omega)]
            refine ih (k + 1) (by omega) _ (fun a ha => by rw [hset_a _ _ _ ha, hset_a _ _ _ ha, f1 a ha]) (fun j a b c => by rw [hset_i _ _ c, hset_i _ _ a, j1 j a b c]) (by rw [hset_e]; omega) (fun z => ?_) (fun i hi => ?_) (by rw [er, rnt_y (by omega) (by rw [dgt_i]; omega)]; rfl)
            · rw [hset_i _ _ (by decide), hset_e, hv z]
            · by_cases e : i = k
              · rw [e]; omega
              · exact c4 i (by omega)
          rw [if_neg a2, ga G.k2, ga G.k2, k7, w32_id (by omega) (by omega)]
          by_cases z : k < 4
          · have w := dgv_r t p k c4
            have w3 := p10 k (by omega)
            rw [if_neg (by omega), ga G.k2, ga G.k2, ga G.k2, ga (G.at_ (by omega) (by omega)), k4 (by omega), w32_id (x := dgv t p k * 10) (by omega) (by omega), w32_id (x := dgv t p k * 10 + t ((p + k : Nat) : Int)) (by omega) (by omega), w32_id (by omega) (by omega)]
            exact nx _ (fun _ => rfl)
          · rw [if_pos (by omega), ga G.k2]
            exact nx _ (fun y => by omega)
  rw [E81]
  exact lp (n - p) 0 (by omega) h (fun _ _ => rfl) (fun _ _ _ _ => rfl) (by rw [h8]; rfl) (fun _ => by rw [h5]; rfl) (fun i hi => by omega) rfl
/-- what the token at p is -/
def TD (f : Int → Int) (t : Int → Int) (n p : Nat) : Prop := (f 7 = p) ∧ (p ≤ n) ∧ (f 8 = (ed t n p : Nat)) ∧ (f 6 = kd t n p) ∧ (f 4 = wdv t n p) ∧ (kd t n p = 2 ∨ kd t n p = 3 → f 5 = nmv t n p)
theorem TD.pl {f : Int → Int} {t : Int → Int} {n p : Nat} (z_ : TD f t n p) : f 7 = p := z_.1
theorem TD.pn {f : Int → Int} {t : Int → Int} {n p : Nat} (z_ : TD f t n p) : p ≤ n := z_.2.1
theorem TD.nx {f : Int → Int} {t : Int → Int} {n p : Nat} (z_ : TD f t n p) : f 8 = (ed t n p : Nat) := z_.2.2.1
theorem TD.k6 {f : Int → Int} {t : Int → Int} {n p : Nat} (z_ : TD f t n p) : f 6 = kd t n p := z_.2.2.2.1
theorem TD.wd {f : Int → Int} {t : Int → Int} {n p : Nat} (z_ : TD f t n p) : f 4 = wdv t n p := z_.2.2.2.2.1
theorem TD.nm {f : Int → Int} {t : Int → Int} {n p : Nat} (z_ : TD f t n p) : kd t n p = 2 ∨ kd t n p = 3 → f 5 = nmv t n p := z_.2.2.2.2.2
theorem A79 {g : KG} (G : GT g) {h : KH} {t : Int → Int} {n q : Nat} (n7 : n ≤ 700) (qn : q ≤ n) (h0 : h 2 0 = 3) (h3 : ∀ k : Nat, k < n → h 3 (k : Int) = t (k : Int)) (h9 : h 2 9 = n) (h8 : h 2 8 = q) {d : Nat} {Q : Option KV → KG → KH → Prop} (hQ : ∀ h2 : KH, (∀ a, a ≠ 2 → h2 a = h a) → (∀ j, (j < 4 ∨ 8 < j) → h2 2 j = h 2 j) → TD (h2 2) t n (skp t n q) → Q none g h2) : Cl (d + 2) 79 [xR 2] g h Q := by
  have fin : ∀ p : Nat, p ≤ n → skp t n q = p → ∀ h1 : KH, (∀ a, a ≠ 2 → h1 a = h a) → (∀ j, j ≠ 8 → h1 2 j = h 2 j) → h1 2 8 = p → Rn (d + 1) 79 52 [xR 2] [] g h1 Q := by
    intro p pn ep h1 f1 j1 k8
    rw [ep] at hQ
    rw [B79_52, ga G.k2, ga G.k2, ga G.k2, ga G.k2, ga G.k2, ga G.k2]
    generalize e2 : hset (hset (hset h1 2 7 (h1 2 8)) 2 4 0) 2 5 0 = h2
    have f2 : ∀ a, a ≠ 2 → h2 a = h a := fun a ha => by rw [← e2, hset_a _ _ _ ha, hset_a _ _ _ ha, hset_a _ _ _ ha, f1 a ha]
    have j2 : ∀ j, (j < 4 ∨ 8 < j) → h2 2 j = h 2 j := fun j hj => by rw [← e2, hset_i _ _ (by omega), hset_i _ _ (by omega), hset_i _ _ (by omega), j1 j (by omega)]
    have v7 : h2 2 7 = p := by rw [← e2, hset_i _ _ (by decide), hset_i _ _ (by decide), hset_e, k8]
    have v8 : h2 2 8 = p := by rw [← e2, hset_i _ _ (by decide), hset_i _ _ (by decide), hset_i _ _ (by decide), k8]
    have v4 : h2 2 4 = 0 := by rw [← e2, hset_i _ _ (by decide), hset_e]
    have v5 : h2 2 5 = 0 := by rw [← e2, hset_e]
    have v9 : h2 2 9 = n := by rw [j2 9 (by decide), h9]
    have v0 : h2 2 0 = 3 := by rw [j2 0 (by decide), h0]
    have v3 : ∀ k : Nat, k < n → h2 3 (k : Int) = t (k : Int) := fun k hk => by rw [f2 3 (by decide), h3 k hk]
    clear e2 f1 j1 k8 h1
    rw [v8, v9]
    by_cases c0 : n ≤ p
    · rw [if_neg (by omega), ga G.k2, B79_218]
      have ek : kd t n p = 0 := by unfold kd; rw [if_pos c0]
      refine hQ _ (fun a ha => by rw [hset_a _ _ _ ha, f2 a ha]) (fun j hj => by rw [hset_i _ _ (by omega), j2 j hj]) ⟨by rw [hset_i _ _ (by decide), v7], pn, ?_, ?_, ?_, ?_⟩
      · rw [hset_i _ _ (by decide), v8]; unfold ed; rw [if_pos c0]
      · rw [hset_e, ek]
      · rw [hset_i _ _ (by decide), v4]; unfold wdv; rw [ek, if_neg (by omega)]
      · intro z; omega
    · have c0' : p < n := by omega
      have G_ := G.at_ (q := (p : Int)) (by omega) (by omega)
      have sgn : ¬ ltr (t p) = true → ¬ dgt (t p) = true → Rn (d + 1) 79 159 [xR 2] [] g h2 Q := by
        intro n1 n2
        have en : ed t n p = p + 1 := by unfold ed; rw [if_neg c0, if_neg n1, if_neg n2]
        have ek : kd t n p = if t p = 59 ∨ t p = 40 ∨ t p = 41 then 3 else 4 := by unfold kd; rw [if_neg c0, if_neg n1, if_neg n2]
        have last : ∀ v : Int, v = kd t n p → Rn (d + 1) 79 205 [xR 2] [xI v, xR 2] g (hset h2 2 5 (t p)) Q := by
          intro v hv
          rw [B79_205, ga G.k2, ga G.k2, ga G.k2, B79_218, hset_i _ _ (by decide), hset_i _ _ (by decide), v8, w32_id (by omega) (by omega)]
          refine hQ _ (fun a ha => by rw [hset_a _ _ _ ha, hset_a _ _ _ ha, hset_a _ _ _ ha, f2 a ha]) (fun j hj => by rw [hset_i _ _ (by omega), hset_i _ _ (by omega), hset_i _ _ (by omega), j2 j hj]) ⟨?_, pn, ?_, ?_, ?_, ?_⟩
          · rw [hset_i _ _ (by decide), hset_i _ _ (by decide), hset_i _ _ (by decide), v7]
          · rw [hset_e, en]; omega
          · rw [hset_i _ _ (by decide), hset_e, hv]
          · rw [hset_i _ _ (by decide), hset_i _ _ (by decide), hset_i _ _ (by decide), v4]; unfold wdv
            rw [if_neg]
            intro z
            have z1 := z.1
            rw [ek] at z1
            split at z1 <;> omega
          · intro z
            rw [hset_i _ _ (by decide), hset_i _ _ (by decide), hset_e]
            unfold nmv
            rw [if_neg]
            intro z1
            rw [ek] at z1
            split at z1 <;> omega
        rw [B79_159, ga G.k2, ga G.k2, v0, v8, ga G_, v3 p c0', ga G.k2, ga G.k2, hset_e]
        by_cases s1 : t p = 59
        · rw [if_pos s1, B79_200]
          exact last _ (by rw [ek, if_pos (Or.inl s1)])
        · rw [if_neg s1, ga G.k2]
          by_cases s2 : t p = 40
          · rw [if_pos s2, B79_200]
            exact last _ (by rw [ek, if_pos (Or.inr (Or.inl s2))])
          · rw [if_neg s2, ga G.k2]
            by_cases s3 : t p = 41
            · rw [if_neg (fun z => z s3), B79_200]
              exact last _ (by rw [ek, if_pos (Or.inr (Or.inr s3))])
            · rw [if_pos s3]
              exact last _ (by rw [ek, if_neg (by omega)])
      have num : ¬ ltr (t p) = true → Rn (d + 1) 79 124 [xR 2] [] g h2 Q := by
        intro n1
        rw [B79_124, ga G.k2, ga G.k2, v0, v8, ga G_, v3 p c0']
        by_cases a1 : t p < 48
        · rw [if_pos a1]; exact sgn n1 (by rw [dgt_i]; omega)
        · rw [if_neg a1, ga G.k2, ga G.k2, ga G_]
          by_cases a2 : 57 < t p
          · rw [if_pos a2]; exact sgn n1 (by rw [dgt_i]; omega)
          · have yd : dgt (t p) = true := by rw [dgt_i]; omega
            rw [if_neg a2, ga G.k2]
            refine S81 G n7 c0' v0 v3 v9 v8 v7 v5 (fun h5 f5 j5 x6 x8 x5 => ?_)
            have ek : kd t n p = if 4 < rnt dgt t n p - p then 4 else 2 := by unfold kd; rw [if_neg c0, if_neg n1, if_pos yd]
            rw [o0, List.nil_append, B79_156, B79_218]
            refine hQ _ (fun a ha => by rw [f5 a ha, f2 a ha]) (fun j hj => by rw [j5 j (by omega) (by omega) (by omega), j2 j hj]) ⟨by rw [j5 7 (by decide) (by decide) (by decide), v7], pn, ?_, by rw [x6, ek], ?_, fun z => ?_⟩
            · rw [x8]; unfold ed; rw [if_neg c0, if_neg n1, if_pos yd]
            · rw [j5 4 (by decide) (by decide) (by decide), v4]
              unfold wdv
              rw [if_neg]
              intro z
              have z1 := z.1
              rw [ek] at z1
              split at z1 <;> omega
            · by_cases l4 : 4 < rnt dgt t n p - p
              · rw [if_pos l4] at ek
                omega
              · rw [if_neg l4] at ek
                rw [x5 (by omega)]
                unfold nmv
                rw [if_pos ek]
      rw [if_pos (by omega), ga G.k2, ga G.k2, v0, ga G_, v3 p c0']
      by_cases a1 : t p < 97
      · rw [if_pos a1]; exact num (by rw [ltr_i]; omega)
      · rw [if_neg a1, ga G.k2, ga G.k2, ga G_]
        by_cases a2 : 122 < t p
        · rw [if_pos a2]; exact num (by rw [ltr_i]; omega)
        · have yl : ltr (t p) = true := by rw [ltr_i]; omega
          have ek : kd t n p = 1 := by unfold kd; rw [if_neg c0, if_pos yl]
          rw [if_neg a2, ga G.k2]
          refine S80 G n7 c0' v0 v3 v9 v8 v7 v4 yl (fun h5 f5 j5 x6 x8 x4 => ?_)
          rw [o0, List.nil_append, B79_121, B79_218]
          refine hQ _ (fun a ha => by rw [f5 a ha, f2 a ha]) (fun j hj => by rw [j5 j (by omega) (by omega) (by omega), j2 j hj]) ⟨by rw [j5 7 (by decide) (by decide) (by decide), v7], pn, ?_, by rw [x6, ek], ?_, fun z => by omega⟩
          · rw [x8]; unfold ed; rw [if_neg c0, if_pos yl]
          · rw [x4]; unfold wdv
            rw [ek]
            by_cases l8 : rnt ltr t n p - p ≤ 8
            · rw [if_pos l8, if_pos ⟨rfl, l8⟩]
            · rw [if_neg l8, if_neg (fun z => l8 z.2)]
  have lp : ∀ m p : Nat, p + m = n → skp t n q = skp t n p → ∀ h1 : KH, (∀ a, a ≠ 2 → h1 a = h a) → (∀ j, j ≠ 8 → h1 2 j = h 2 j) → h1 2 8 = p → Rn (d + 1) 79 0 [xR 2] [] g h1 Q := by
    intro m
    induction m with
    | zero =>
      intro p hp ep h1 f1 j1 k8
      have k9 : h1 2 9 = n := by rw [j1 9 (by decide), h9]
      rw [B79_0, ga G.k2, ga G.k2, k9, k8, if_pos (by omega)]
      exact fin p (by omega) (by rw [ep]; unfold skp; rw [rnt_e (by omega)]) h1 f1 j1 k8
    | succ m ih =>
      intro p hp ep h1 f1 j1 k8
      have k9 : h1 2 9 = n := by rw [j1 9 (by decide), h9]
      have k0 : h1 2 0 = 3 := by rw [j1 0 (by decide), h0]
      have k3 : h1 3 (p : Int) = t (p : Int) := by rw [f1 3 (by decide), h3 p (by omega)]
      have G_ := G.at_ (q := (p : Int)) (by omega) (by omega)
      have nx : wsp (t p) = true → Rn (d + 1) 79 39 [xR 2] [] g h1 Q := by
        intro y
        rw [B79_39, ga G.k2, ga G.k2, k8, w32_id (by omega) (by omega)]
        exact ih (p + 1) (by omega) (by rw [ep]; unfold skp; rw [rnt_y (by omega) y]) _ (fun a ha => by rw [hset_a _ _ _ ha, f1 a ha]) (fun j hj => by rw [hset_i _ _ hj, j1 j hj]) (by rw [hset_e]; omega)
      rw [B79_0, ga G.k2, ga G.k2, k9, k8, if_neg (by omega), ga G.k2, ga G.k2, k0, ga G_, k3]
      by_cases a1 : t p = 10
      · rw [if_pos a1]; exact nx (by rw [wsp_i]; omega)
      · rw [if_neg a1, ga G.k2, ga G.k2, ga G_]
        by_cases a2 : t p = 32
        · rw [if_neg (fun z => z a2)]; exact nx (by rw [wsp_i]; omega)
        · rw [if_pos a2]
          exact fin p (by omega) (by rw [ep]; unfold skp; rw [rnt_n]; rw [wsp_i]; omega) h1 f1 j1 k8
  rw [E79]
  exact lp (n - q) q (by omega) rfl h (fun _ _ => rfl) (fun _ _ => rfl) h8
