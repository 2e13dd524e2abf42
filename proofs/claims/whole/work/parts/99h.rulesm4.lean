/-! a rule, the call rules, on the model's side -/
theorem M197 {g : KG} {h0 h : KH} (K0 : MK g h0) (F : FM h0 h) {t : Int → Int} {n p : Nat} (n3 : n ≤ 300) {C : PR} (T : MP h t n p) (I : MI h C) (O : C.Ok2 p) (z : kd t n p ≠ 0) {d : Nat} {Q : Option KV → KG → KH → Prop} (hf : ∀ (k pl : Int) (h2 : KH), (∀ m, sRules t n (m + 1) C p = .inr (k, pl)) → FM h0 h2 → MF h2 k pl → 0 < k → Q (some (xI 0)) g h2) (hl : ∀ (C2 : PR) (p2 : Nat) (h2 : KH), (∀ m, sRules t n (m + 1) C p = sRules t n m C2 p2) → C2.Ok2 p2 → p < p2 → p2 ≤ n → FM h0 h2 → MI h2 C2 → MP h2 t n p2 → Q (some (xI 1)) g h2) : Cl (d + 7) 197 [xR 138] g h Q := by
  have K := F.mk K0
  have pn := T.mu.pn
  have onr := O.ok.nr
  have ol := O.l
  have l0 := O.ok.l0
  rw [E197, ga K.k0]
  refine R178 K T ?_
  rw [o1, List.cons_append, List.nil_append, B197_6]
  by_cases y : kyr (wdv t n p) = 0
  case neg =>
    rw [if_neg y, ga K.k0]
    refine M179 K T (by decide) (fun h2 f2 X => ?_)
    rw [o1, List.cons_append, List.nil_append, B197_14, ga (by decide)]
    exact hf _ _ h2 (fun m => by rw [sRules, if_neg z, if_pos y]) (F.tok f2) X (flt_p (by decide))
  rw [if_pos y, ga K.k0, K.pat, ga ⟨K.kat, by decide, by rw [K.lat]; decide⟩, I.nr]
  by_cases c : C.A.nr = 4
  · rw [if_neg (fun x => x c), ga K.k0]
    refine M179 K T (by decide) (fun h2 f2 X => ?_)
    rw [o1, List.cons_append, List.nil_append, B197_33, ga (by decide)]
    exact hf _ _ h2 (fun m => by rw [sRules, if_neg z, if_neg (fun x => x y), if_pos (by omega)]) (F.tok f2) X (flt_p (by decide))
  rw [if_pos c, ga K.k0]
  have es : ∀ m, sRules t n (m + 1) C p = match sTerms t n (sTest t n 8) C (nxt t n p) with
      | .inr f => .inr f
      | .inl (C2, p2) => if sgnD t n p2 59 then sRules t n m C2.end_ (nxt t n p2) else .inr (flt t n p2 2, (p2 : Int)) := fun m => by
    rw [sRules, if_neg z, if_neg (fun x => x y), if_neg (by omega)]
    rfl
  have q := nxt_r t pn
  refine M176 K T (fun h2 f2 _ T2 => ?_)
  have F2 := F.tok f2
  have I2 : MI h2 C := I.kp (f2.1 139 (by decide)) (f2.2 23 (by decide)) (f2.2 24 (by decide))
  rw [o0, List.nil_append, B197_38, ga K.k0, ga K.k0, ga ⟨K.k0, by decide, by decide⟩]
  have F3 : FM h0 (hset (hset (hset h2 138 21 0) 138 22 0) 138 25 0) := ((F2.f138 (by decide)).f138 (by decide)).f138 (by decide)
  have f3 : ∀ a, a ≠ 138 → hset (hset (hset h2 138 21 0) 138 22 0) 138 25 0 a = h2 a := fun a ha => by rw [hset_a _ _ _ ha, hset_a _ _ _ ha, hset_a _ _ _ ha]
  have j3 : ∀ j, j ≠ 21 → j ≠ 22 → j ≠ 25 → hset (hset (hset h2 138 21 0) 138 22 0) 138 25 0 138 j = h2 138 j := fun j a b c => by rw [hset_i _ _ c, hset_i _ _ b, hset_i _ _ a]
  have v21 : hset (hset (hset h2 138 21 0) 138 22 0) 138 25 0 138 21 = 0 := by rw [hset_i _ _ (by decide), hset_i _ _ (by decide), hset_e]
  have v22 : hset (hset (hset h2 138 21 0) 138 22 0) 138 25 0 138 22 = 0 := by rw [hset_i _ _ (by decide), hset_e]
  have v25 : hset (hset (hset h2 138 21 0) 138 22 0) 138 25 0 138 25 = 0 := hset_e _ _ _ _
  generalize hset (hset (hset h2 138 21 0) 138 22 0) 138 25 0 = h3 at *
  have Z3 : MZ h3 t n (nxt t n p) C [] (8 - ((8 : Nat) : Int)) 0 := ⟨T2.kp (fun j j0 j1 => j3 j (by omega) (by omega) (by omega)) (f3 144 (by decide)), I2.kp (f3 139 (by decide)) (j3 23 (by decide) (by decide) (by decide)) (j3 24 (by decide) (by decide) (by decide)), v21, v22, v25, True.intro⟩
  refine (lts n3 (by decide) (ltm n3 (by decide) (lt n3 8 (by decide)))) d [] h0 h3 C (nxt t n p) Q K0 F3 Z3 (fun x l e => by cases e) O.ok (by omega) (by decide) (fun k2 pl h4 e4 F4 X4 k0 => ?_) (fun C4 p4 C5 q5 h4 e4 F4 hq5 eq5 ql5 l5 y1 y2 Z4 => ?_)
  · exact hf k2 pl h4 (fun m => by rw [es, e4]) F4 X4 k0
  · have gr := (GF.test (t := t) 8).terms _ _ _ _ e4 q.2.1 O.ok
    have gl := gr.ln
    have ge := gr.le
    have gt := gr.lt
    have gd := gr.d
    have od := O.d
    have gn := gr.nr
    have en := gr.ok.end_ (by omega) (by omega)
    have el := emL_ln q5 C5
    have en5 := emL_nr q5 C5
    rw [eq5] at el en5
    refine LJ3 K0 F4 Z4 y1 y2 hq5 (fun x l e => by cases e) l5 (by omega) (by omega) (by show q5.length + 0 ≤ 40; omega) (by decide) (fun _ h6 F6 Z6 => ?_) (fun _ x i s2 e => by cases e) (fun w => absurd rfl w)
    rw [eq5] at Z6
    have K6 := F6.mk K0
    have I6 := Z6.mi
    have y6 : ∀ u, hset h6 139 3603 u 138 = h6 138 := fun u => hset_a _ _ _ (by decide)
    have gnr := gr.ok.nr
    have gl0 := gr.ok.l0
    rw [B197_55, if_pos rfl, ga K.k0, Z6.mp.fk, if_pos (by decide), ga K.k0, Z6.sl, if_pos (by decide), ga K.k0, K6.pat, ga ⟨K.kat, by decide, by rw [K.lat]; decide⟩, ga ⟨K.kat, by decide, by decide, by rw [K.lat]; decide⟩, ga K.k0, ga K.k0, y6, K6.pat, ga ⟨K.kat, by decide, by rw [K.lat]; decide⟩, ga K.k0, hset_e, I6.nr, I6.ln, w32_id (x := C4.A.nr + 1) (by omega) (by omega), w32_id (by omega) (by omega), B197_135, ga ⟨K.kat, by decide, by omega, by rw [K.lat]; omega⟩, ga K.k0]
    have fa : ∀ a, a ≠ 139 → hset (hset h6 139 3603 (C4.A.nr + 1)) 139 (4058 + (C4.A.nr + 1)) C4.ln a = h6 a := fun a ha => by rw [hset_a _ _ _ ha, hset_a _ _ _ ha]
    have fc : ∀ j, j ≠ 3603 → j ≠ 4058 + (C4.A.nr + 1) → hset (hset h6 139 3603 (C4.A.nr + 1)) 139 (4058 + (C4.A.nr + 1)) C4.ln 139 j = h6 139 j := fun j a b => by rw [hset_i _ _ b, hset_i _ _ a]
    have c0 : hset (hset h6 139 3603 (C4.A.nr + 1)) 139 (4058 + (C4.A.nr + 1)) C4.ln 139 3603 = C4.A.nr + 1 := by rw [hset_i _ _ (by omega), hset_e]
    have c1 : hset (hset h6 139 3603 (C4.A.nr + 1)) 139 (4058 + (C4.A.nr + 1)) C4.ln 139 (4058 + (C4.A.nr + 1)) = C4.ln := hset_e _ _ _ _
    have F7 : FM h0 (hset (hset h6 139 3603 (C4.A.nr + 1)) 139 (4058 + (C4.A.nr + 1)) C4.ln) := (F6.f139 (by decide)).f139 (by omega)
    generalize hset (hset h6 139 3603 (C4.A.nr + 1)) 139 (4058 + (C4.A.nr + 1)) C4.ln = h7 at *
    have K7 := F7.mk K0
    have T7 : MP h7 t n p4 := Z6.mp.kp (fun j _ _ => by rw [fa 138 (by decide)]) (fa 144 (by decide))
    have I7 : MI h7 C4.end_ := by
      refine ⟨c0, fun i i0 i1 => ?_, fun k k0 k1 => ?_, fun k k0 k1 => ?_, by rw [fa 138 (by decide)]; exact I6.ln, by rw [fa 138 (by decide)]; exact I6.ts⟩
      · have i1 : i ≤ C4.A.nr + 1 := i1
        show _ = if i = C4.A.nr + 1 then C4.ln else C4.A.rs i
        by_cases e : i = C4.A.nr + 1
        · rw [if_pos e, e, c1]
        · rw [if_neg e, fc _ (by omega) (by omega)]; exact I6.rs i i0 (by omega)
      · have k1 : k < C4.ln := k1
        rw [fc _ (by omega) (by omega)]; exact I6.op k k0 k1
      · have k1 : k < C4.ln := k1
        rw [fc _ (by omega) (by omega)]; exact I6.nm k k0 k1
    have q2 := nxt_r t ge
    refine M181 K7 T7 (fun y3 h8 f8 X8 => ?_) (fun y3 h8 f8 T8 => ?_)
    · rw [o1, List.cons_append, List.nil_append, B197_140, ga (by decide)]
      exact hf _ _ h8 (fun m => by rw [es, e4]; exact if_neg y3) (F7.tok f8) X8 (flt_p (by decide))
    · rw [o1, List.cons_append, List.nil_append, B197_140, ga (by decide)]
      refine hl C4.end_ (nxt t n p4) h8 (fun m => by rw [es, e4]; exact if_pos y3) ⟨en.1, en.2, ?_⟩ (by omega) q2.2.1 (F7.tok f8) (I7.kp (f8.1 139 (by decide)) (f8.2 23 (by decide)) (f8.2 24 (by decide))) T8
      show 2 * C4.ln ≤ _
      omega
theorem L198 {g : KG} {h0 : KH} (K0 : MK g h0) {t : Int → Int} {n : Nat} (n3 : n ≤ 300) {d : Nat} {a1 : Int} {Q : Option KV → KG → KH → Prop} : ∀ (k : Nat) (C : PR) (p : Nat) (h1 : KH), n < p + k → p ≤ n → FM h0 h1 → MI h1 C → C.Ok2 p → MP h1 t n p → (∀ (q pl : Int) (h2 : KH), sRules t n k C p = .inr (q, pl) → 0 < q → FM h0 h2 → MF h2 q pl → Rn (d + 7) 198 71 [xR 138, xI a1, xI 0, xU] [] g h2 Q) → (∀ (C2 : PR) (p2 : Nat) (h2 : KH), sRules t n k C p = .inl C2 → C2.Ok2 p2 → p2 ≤ n → FM h0 h2 → MI h2 C2 → MP h2 t n p2 → Rn (d + 7) 198 71 [xR 138, xI a1, xI 0, xU] [] g h2 Q) → Rn (d + 7) 198 71 [xR 138, xI a1, xI (bz (kd t n p ≠ 0)), xU] [] g h1 Q := by
  intro k
  induction k with
  | zero =>
    intro C p h1 hk hp
    omega
  | succ k ih =>
    intro C p h1 hk hp F I O T hf hl
    by_cases z : kd t n p = 0
    · rw [bzf (fun y => y z)]
      exact hl C p h1 (by rw [sRules, if_pos z]) O hp F I T
    · have K1 := F.mk K0
      rw [bzt z, B198_71, if_neg (by decide), ga K1.k0]
      refine M197 K0 F n3 T I O z (fun q pl h2 e F2 X q0 => ?_) (fun C2 p2 h2 e O2 lt le F2 I2 T2 => ?_)
      · rw [o1, List.cons_append, List.nil_append, B198_79, if_pos rfl, B198_93, B198_94]
        exact hf q pl h2 (e k) q0 F2 X
      · have K2 := F2.mk K0
        have xx := mkd_0 t n p2
        rw [o1, List.cons_append, List.nil_append, B198_79, if_neg (by decide), ga K2.k0, T2.mu.tk]
        have nx := ih C2 p2 h2 (by omega) le F2 I2 O2 T2 (fun q pl h4 e4 => hf q pl h4 (by rw [e k]; exact e4)) (fun L4 p4 h4 e4 => hl L4 p4 h4 (by rw [e k]; exact e4))
        by_cases z2 : kd t n p2 = 0
        · rw [bzf (fun y => y z2)] at nx
          rw [if_pos (by rw [xx]; exact z2), B198_93, B198_94]
          exact nx
        · rw [bzt z2] at nx
          rw [if_neg (fun y => z2 (by rw [xx] at y; exact y)), B198_94]
          exact nx
theorem MS.rls {f f2 : Int → Int} {A B : St} (M : MS f B) (O : B.Ok) (ya : ∀ j, 0 ≤ j → j < 458 → j ≠ 3 → f2 j = f j) (yc : f2 3 = A.nr) (yr : ∀ r, 0 ≤ r → r ≤ A.nr → f2 (458 + r) = A.rs r) (yo : ∀ k, 0 ≤ k → k < A.rs A.nr → f2 (464 + 2 * k) = A.op k) (yn : ∀ k, 0 ≤ k → k < A.rs A.nr → f2 (464 + 2 * k + 1) = A.nm k) : MS f2 (A.rls B) := by
  have n6 := O.nq
  have d6 := O.nd
  have s6 := O.ns
  refine ⟨?_, ?_, ?_, yc, ?_, ?_, ?_, fun q hq => ?_, fun m q hm hq => ?_, fun m q r a hm hq r0 r1 b0 b1 => ?_, fun i i0 i1 => ?_, fun i i0 i1 => ?_, fun s hs => ?_, fun s hs => ?_, fun s hs => ?_, fun s hs => ?_, fun s hs => ?_, fun s hs => ?_, fun s hs e => ?_, fun s q hs hq => ?_, yr, yo, yn⟩
  · rw [ya 0 (by decide) (by decide) (by decide)]; exact M.nq
  · rw [ya 1 (by decide) (by decide) (by decide)]; exact M.nd
  · rw [ya 2 (by decide) (by decide) (by decide)]; exact M.ns
  · rw [ya 4 (by decide) (by decide) (by decide)]; exact M.wk
  · rw [ya 5 (by decide) (by decide) (by decide)]; exact M.ca
  · rw [ya 6 (by decide) (by decide) (by decide)]; exact M.cm
  · have h1 := hq.1
    have h2 : q < B.nq := hq.2
    rw [ya _ (by omega) (by omega) (by omega)]; exact M.ch q hq
  · have h1 := hq.1
    have h2 : q < B.nq := hq.2
    have := bit1_le hm
    rw [ya _ (by omega) (by omega) (by omega)]; exact M.gb m q hm hq
  · have h1 := hq.1
    have h2 : q < B.nq := hq.2
    have := bit1_le hm
    have r1 : r < B.rows m q := r1
    have b1 : a < B.ch q := b1
    have h3 := (O.rows hm hq).2
    have h4 := O.ch q hq
    rw [ya _ (by omega) (by omega) (by omega)]; exact M.wt m q r a hm hq r0 r1 b0 b1
  · have i1 : i < B.nd := i1
    rw [ya _ (by omega) (by omega) (by omega)]; exact M.dx i i0 i1
  · have i1 : i < B.nd := i1
    rw [ya _ (by omega) (by omega) (by omega)]; exact M.dy i i0 i1
  · have s0 : 0 ≤ s := hs.1
    have s1 : s < B.ns := hs.2
    rw [ya _ (by omega) (by omega) (by omega)]; exact M.ask s hs
  · have s0 : 0 ≤ s := hs.1
    have s1 : s < B.ns := hs.2
    rw [ya _ (by omega) (by omega) (by omega)]; exact M.dr s hs
  · have s0 : 0 ≤ s := hs.1
    have s1 : s < B.ns := hs.2
    rw [ya _ (by omega) (by omega) (by omega)]; exact M.fr s hs
  · have s0 : 0 ≤ s := hs.1
    have s1 : s < B.ns := hs.2
    rw [ya _ (by omega) (by omega) (by omega)]; exact M.tt s hs
  · have s0 : 0 ≤ s := hs.1
    have s1 : s < B.ns := hs.2
    rw [ya _ (by omega) (by omega) (by omega)]; exact M.cd s hs
  · have s0 : 0 ≤ s := hs.1
    have s1 : s < B.ns := hs.2
    rw [ya _ (by omega) (by omega) (by omega)]; exact M.tr s hs
  · have s0 : 0 ≤ s := hs.1
    have s1 : s < B.ns := hs.2
    rw [ya _ (by omega) (by omega) (by omega)]; exact M.hf s hs e
  · have s0 : 0 ≤ s := hs.1
    have s1 : s < B.ns := hs.2
    have h1 := hq.1
    have h2 : q < B.nq := hq.2
    rw [ya _ (by omega) (by omega) (by omega)]; exact M.pa s q hs hq
theorem C198 {W : Wd} (G : W.Rg) (G2 : W.tb) {n : Int} : Mw 198 [xR 138, xI n] 8 W (W.rules n) := by
  intro g h C O d Q hQ
  have K := C.1
  have M := C.2.2.cur
  have X := C.2.1
  have D := C.2.2
  have f7 := G.2.1
  unfold Wd.rules at hQ
  have no : ¬ (0 ≤ n ∧ n ≤ W.fed ∧ n ≤ 300) → Rn (d + 7) 198 19 [xR 138, xI n, xU, xU] [] g h Q := by
    intro z
    rw [if_neg z] at hQ
    rw [B198_19, ga K.k0]
    simp only [S160 (k := K.k0), S161 (k := K.k0), S162 (k := K.k0), o1, o0, List.cons_append, List.nil_append, B198_24]
    exact mst C hQ
  rw [E198]
  by_cases n0 : n < 0
  · rw [if_pos n0]; exact no (by omega)
  rw [if_neg n0, ga K.k0, X.fed]
  by_cases n1 : n ≤ W.fed
  case neg => rw [if_pos (by omega)]; exact no (by omega)
  rw [if_neg (by omega)]
  by_cases n2 : n ≤ 300
  case neg => rw [if_neg n2]; exact no (by omega)
  rw [if_pos ⟨by omega, n1, n2⟩] at hQ
  clear no
  obtain ⟨m, hm⟩ : ∃ m : Nat, n = (m : Int) := ⟨n.toNat, by omega⟩
  subst hm
  have m3 : m ≤ 300 := by omega
  have eR : rulesR W (m : Int) = sRules W.tp m 301 PR.empty (skp W.tp m 0) := rfl
  rw [eR] at hQ
  rw [if_pos n2, ga K.k0]
  refine M180 K (by omega) (t := W.tp) (fun k hk => D.tp k (by omega) (by omega)) (fun k hk => G2 k (by omega) (by omega)) (fun h1 f1 j1 T1 => ?_)
  have K1 : MK g h1 := K.keep (fun j hj => j1 j (by omega))
  have y1 : ∀ i u, hset h1 139 i u 138 = h1 138 := fun i u => hset_a _ _ _ (by decide)
  rw [o0, List.nil_append, B198_30, ga K.k0, K1.pat, ga ⟨K.kat, by decide, by decide, by rw [K.lat]; decide⟩, ga K.k0, y1, K1.pat, ga ⟨K.kat, by decide, by decide, by rw [K.lat]; decide⟩, ga K.k0, ga K.k0]
  have f2 : ∀ a, a ≠ 138 → a ≠ 139 → hset (hset (hset (hset h1 139 3603 0) 139 4058 0) 138 23 0) 138 24 0 a = h1 a := fun a a0 a1 => by rw [hset_a _ _ _ a0, hset_a _ _ _ a0, hset_a _ _ _ a1, hset_a _ _ _ a1]
  have j2 : ∀ j, j ≠ 23 → j ≠ 24 → hset (hset (hset (hset h1 139 3603 0) 139 4058 0) 138 23 0) 138 24 0 138 j = h1 138 j := fun j a b => by rw [hset_i _ _ b, hset_i _ _ a, hset_a _ _ _ (by decide), hset_a _ _ _ (by decide)]
  have c2 : ∀ j, j ≠ 3603 → j ≠ 4058 → hset (hset (hset (hset h1 139 3603 0) 139 4058 0) 138 23 0) 138 24 0 139 j = h1 139 j := fun j a b => by rw [hset_a _ _ _ (by decide), hset_a _ _ _ (by decide), hset_i _ _ b, hset_i _ _ a]
  have x3 : hset (hset (hset (hset h1 139 3603 0) 139 4058 0) 138 23 0) 138 24 0 139 3603 = 0 := by rw [hset_a _ _ _ (by decide), hset_a _ _ _ (by decide), hset_i _ _ (by decide), hset_e]
  have x4 : hset (hset (hset (hset h1 139 3603 0) 139 4058 0) 138 23 0) 138 24 0 139 4058 = 0 := by rw [hset_a _ _ _ (by decide), hset_a _ _ _ (by decide), hset_e]
  have x23 : hset (hset (hset (hset h1 139 3603 0) 139 4058 0) 138 23 0) 138 24 0 138 23 = 0 := by rw [hset_i _ _ (by decide), hset_e]
  have x24 : hset (hset (hset (hset h1 139 3603 0) 139 4058 0) 138 23 0) 138 24 0 138 24 = 0 := hset_e _ _ _ _
  generalize hset (hset (hset (hset h1 139 3603 0) 139 4058 0) 138 23 0) 138 24 0 = h3 at *
  have T3 : MP h3 W.tp m (skp W.tp m 0) := T1.kp (fun j _ _ => j2 j (by omega) (by omega)) (f2 144 (by decide) (by decide))
  have K3 : MK g h3 := K1.keep (fun j hj => j2 j (by omega) (by omega))
  have I3 : MI h3 PR.empty := ⟨x3, fun i i0 i1 => by
    have i1 : i ≤ 0 := i1
    rw [show i = 0 by omega]
    exact x4, fun k k0 k1 => absurd k1 (by show ¬ k < 0; omega), fun k k0 k1 => absurd k1 (by show ¬ k < 0; omega), x24, x23⟩
  have g3 : ∀ a, a ≠ 138 → a ≠ 139 → a ≠ 144 → h3 a = h a := fun a a0 a1 a2 => by rw [f2 a a0 a1, f1 a a0 a2]
  have c3 : ∀ j, j < 3600 → h3 139 j = h 139 j := fun j hj => by rw [c2 j (by omega) (by omega), f1 139 (by decide) (by decide)]
  have j3 : ∀ j, (j < 9 ∨ (17 < j ∧ j < 23) ∨ 24 < j ∨ j = 15) → h3 138 j = h 138 j := fun j hj => by rw [j2 j (by omega) (by omega), j1 j (by omega)]
  clear f1 j1 T1 K1 f2 j2 c2 x3 x4 x23 x24
  generalize eP : skp W.tp m 0 = p at *
  have pm : p ≤ m := by rw [← eP]; exact (skp_r W.tp (Nat.zero_le m)).2
  have O3 : PR.empty.Ok2 p := ⟨PR.empty_ok, rfl, by show 2 * (0 : Int) ≤ _; omega⟩
  -- how it ends
  have hf : ∀ (q pl : Int) (h4 : KH), sRules W.tp m 301 PR.empty p = .inr (q, pl) → 0 < q → FM h3 h4 → MF h4 q pl → Rn (d + 7) 198 71 [xR 138, xI (m : Int), xI 0, xU] [] g h4 Q := by
    intro q pl h4 e q0 F4 X4
    have K4 := F4.mk K3
    rw [e] at hQ
    have y17 : hset h4 138 15 q 138 17 = q := by rw [hset_i _ _ (by decide)]; exact X4.fk
    rw [B198_71, if_pos rfl, ga K.k0, ga K.k0, ga K.k0, X4.fk, y17, if_neg (by omega), ga K.k0]
    simp only [S160 (k := K.k0), S161 (k := K.k0), S162 (k := K.k0), o1, o0, List.cons_append, List.nil_append, B198_119]
    refine hQ _ (C.rd G (fun a a0 a1 a2 a3 a4 => by rw [hset_a _ _ _ (by omega), hset_a _ _ _ (by omega), F4.1 a (by omega) (by omega) (by omega), g3 a (by omega) (by omega) a2]) (fun j j0 j1 => by rw [hset_i _ _ j0, hset_i _ _ (by omega), F4.2.1 j (by omega), j3 j (by omega)]) (hset_e _ _ _ _) (by rw [hset_i _ _ (by decide), hset_i _ _ (by decide)]; exact X4.fd) (by rw [hset_i _ _ (by decide), hset_e]) (by rw [hset_i _ _ (by decide), hset_i _ _ (by decide)]; exact X4.fp) (M.keepb O (fun j j0 j1 => by rw [hset_a _ _ _ (by decide), hset_a _ _ _ (by decide), F4.2.2 j (by omega), c3 j (by omega)])) (fun j j0 j1 => by rw [hset_a _ _ _ (by decide), hset_a _ _ _ (by decide), F4.2.2 j (by omega), c3 j (by omega)])) (fun a ha => by rw [hset_a _ _ _ (by omega), hset_a _ _ _ (by omega), F4.1 a (by omega) (by omega) (by omega), g3 a (by omega) (by omega) (by omega)])
  have hl : ∀ (L : PR) (p2 : Nat) (h4 : KH), sRules W.tp m 301 PR.empty p = .inl L → L.Ok2 p2 → p2 ≤ m → FM h3 h4 → MI h4 L → MP h4 W.tp m p2 → Rn (d + 7) 198 71 [xR 138, xI (m : Int), xI 0, xU] [] g h4 Q := by
    intro L p2 h4 e P pm2 F4 I4 T4
    have K4 := F4.mk K3
    rw [e] at hQ
    have pe := P.e
    have pl := P.l
    have pl0 := P.ok.l0
    have pnr := P.ok.nr
    have i5 : ∀ j, j ≠ 15 → hset h4 138 15 0 138 j = h4 138 j := fun j hj => hset_i _ _ hj
    have f5 : ∀ a, a ≠ 138 → hset h4 138 15 0 a = h4 a := fun a ha => hset_a _ _ _ ha
    have x5 : hset h4 138 15 0 138 15 = 0 := hset_e _ _ _ _
    have y17 : hset h4 138 15 0 138 17 = 0 := by rw [i5 17 (by decide)]; exact T4.fk
    rw [B198_71, if_pos rfl, ga K.k0, ga K.k0, ga K.k0, T4.fk, y17, if_pos (by decide), ga K.k0, ga K.k0, i5 0 (by decide), K4.pat, ga ⟨K.kat, by decide, by rw [K.lat]; decide⟩, ga ⟨K.kat, by decide, by decide, by rw [K.lat]; decide⟩]
    generalize hset h4 138 15 0 = h5 at *
    have f6 : ∀ a, a ≠ 139 → hset h5 139 3 (h5 139 3603) a = h5 a := fun a ha => hset_a _ _ _ ha
    have c6 : ∀ j, j ≠ 3 → hset h5 139 3 (h5 139 3603) 139 j = h4 139 j := fun j hj => by rw [hset_i _ _ hj, f5 139 (by decide)]
    have x6 : hset h5 139 3 (h5 139 3603) 139 3 = L.A.nr := by rw [hset_e, f5 139 (by decide)]; exact I4.nr
    generalize hset h5 139 3 (h5 139 3603) = h6 at *
    have lp : ∀ u k : Nat, k + u = 900 → 458 ≤ k → ∀ h7 : KH, (∀ a, a ≠ 139 → h7 a = h6 a) → (∀ j, 458 ≤ j → j < (k : Int) → h7 139 j = h6 139 (3600 + j)) → (∀ j, (j < 458 ∨ (k : Int) ≤ j) → h7 139 j = h6 139 j) → Rn (d + 7) 198 138 [xR 138, xI (m : Int), xI 0, xI (k : Int)] [] g h7 Q := by
      intro u
      induction u with
      | zero =>
        intro k hk k4 h7 f7 a7 b7
        have K7 : MK g h7 := K4.keep (fun j hj => by rw [f7 138 (by decide), f6 138 (by decide), i5 j (by omega)])
        have e3 : h7 139 3 = L.A.nr := by rw [b7 3 (by omega)]; exact x6
        rw [B198_138, if_pos (by omega), ga K.k0, K7.pat, ga ⟨K.kat, by decide, by rw [K.lat]; decide⟩, ga K.k0, e3]
        simp only [S160 (k := K.k0), S161 (k := K.k0), S162 (k := K.k0), o1, o0, List.cons_append, List.nil_append, B198_177]
        have y7 : ∀ a, a ≠ 138 → a ≠ 139 → h7 a = h4 a := fun a a0 a1 => by rw [f7 a a1, f6 a a1, f5 a a0]
        have z7 : ∀ j, j ≠ 15 → h7 138 j = h4 138 j := fun j hj => by rw [f7 138 (by decide), f6 138 (by decide), i5 j hj]
        have c7 : ∀ j, 900 ≤ j → j < 3600 → h7 139 j = h 139 j := fun j j0 j1 => by rw [b7 j (by omega), c6 j (by omega), F4.2.2 j j1, c3 j j1]
        have d7 : ∀ j, j < 458 → j ≠ 3 → h7 139 j = h 139 j := fun j j0 j1 => by rw [b7 j (by omega), c6 j (by omega), F4.2.2 j (by omega), c3 j (by omega)]
        refine hQ _ (C.rd G (fun a a0 a1 a2 a3 a4 => by rw [hset_a _ _ _ (by omega), y7 a (by omega) (by omega), F4.1 a (by omega) (by omega) (by omega), g3 a (by omega) (by omega) a2]) (fun j j0 j1 => by rw [hset_i _ _ j0, z7 j (by omega), F4.2.1 j (by omega), j3 j (by omega)]) (hset_e _ _ _ _) (by rw [hset_i _ _ (by decide), z7 9 (by decide)]; exact T4.fd) (by rw [hset_i _ _ (by decide), f7 138 (by decide), f6 138 (by decide), x5]) (by rw [hset_i _ _ (by decide), z7 16 (by decide)]; exact T4.fp) ?_ (fun j j0 j1 => by rw [hset_a _ _ _ (by decide), c7 j (by omega) j1])) (fun a ha => by rw [hset_a _ _ _ (by omega), y7 a (by omega) (by omega), F4.1 a (by omega) (by omega) (by omega), g3 a (by omega) (by omega) (by omega)])
        rw [hset_a _ _ _ (by decide)]
        refine M.rls O (fun j j0 j1 j2 => d7 j j1 j2) e3 (fun r r0 r1 => ?_) (fun k k0 k1 => ?_) (fun k k0 k1 => ?_)
        · rw [a7 _ (by omega) (by omega), c6 _ (by omega), show 3600 + (458 + r) = 4058 + r by omega]
          exact I4.rs r r0 r1
        · rw [pe] at k1
          rw [a7 _ (by omega) (by omega), c6 _ (by omega), show 3600 + (464 + 2 * k) = 4064 + 2 * k by omega]
          exact I4.op k k0 k1
        · rw [pe] at k1
          rw [a7 _ (by omega) (by omega), c6 _ (by omega), show 3600 + (464 + 2 * k + 1) = 4064 + 2 * k + 1 by omega]
          exact I4.nm k k0 k1
      | succ u ih =>
        intro k hk k4 h7 f7 a7 b7
        have K7 : MK g h7 := K4.keep (fun j hj => by rw [f7 138 (by decide), f6 138 (by decide), i5 j (by omega)])
        have e1 : ((k : Int) + 1) = ((k + 1 : Nat) : Int) := by omega
        rw [B198_138, if_neg (by omega), ga K.k0, ga K.k0, K7.pat, w32_id (x := 3600 + (k : Int)) (by omega) (by omega), w32_id (x := (k : Int) + 1) (by omega) (by omega), ga ⟨K.kat, by omega, by rw [K.lat]; omega⟩, ga ⟨K.kat, by decide, by omega, by rw [K.lat]; omega⟩, e1]
        refine ih (k + 1) (by omega) (by omega) _ (fun a ha => by rw [hset_a _ _ _ ha, f7 a ha]) (fun j j0 j1 => ?_) (fun j hj => by rw [hset_i _ _ (by omega), b7 j (by omega)])
        by_cases ej : j = k
        · rw [ej, hset_e, b7 _ (by omega)]
        · rw [hset_i _ _ ej]; exact a7 j j0 (by omega)
    exact lp 442 458 (by omega) (by omega) h6 (fun _ _ => rfl) (fun j j0 j1 => by omega) (fun _ _ => rfl)
  have nx := L198 K3 m3 (d := d) (a1 := (m : Int)) (Q := Q) 301 PR.empty p h3 (by omega) pm (FM.rfl_ h3) I3 O3 T3 hf hl
  have xx := mkd_0 W.tp m p
  rw [B198_58, ga K.k0, T3.mu.tk]
  by_cases z : kd W.tp m p = 0
  · rw [bzf (fun y => y z)] at nx
    rw [if_pos (by rw [xx]; exact z), B198_70]
    exact nx
  · rw [bzt z] at nx
    rw [if_neg (fun y => z (by rw [xx] at y; exact y)), B198_70]
    exact nx
