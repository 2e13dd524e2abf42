/-! mark, back -/
theorem MS.keepb {f f2 : Int → Int} {A : St} (O : A.Ok) (e : ∀ j, 0 ≤ j → j < 900 → f2 j = f j) (M : MS f A) : MS f2 A := by
  have hq6 := O.nq
  have hd6 := O.nd
  have hn6 := O.ns
  have hr6 := O.nr
  have hs6 := O.rsp
  refine ⟨by rw [e 0 (by decide) (by decide)]; exact M.nq, by rw [e 1 (by decide) (by decide)]; exact M.nd, by rw [e 2 (by decide) (by decide)]; exact M.ns, by rw [e 3 (by decide) (by decide)]; exact M.nr, by rw [e 4 (by decide) (by decide)]; exact M.wk, by rw [e 5 (by decide) (by decide)]; exact M.ca, by rw [e 6 (by decide) (by decide)]; exact M.cm, fun q hq => ?_, fun m q hm hq => ?_, fun m q r a hm hq r0 r1 b0 b1 => ?_, fun i i0 i1 => ?_, fun i i0 i1 => ?_, fun i hi => ?_, fun i hi => ?_, fun i hi => ?_, fun i hi => ?_, fun i hi => ?_, fun i hi => ?_, fun i hi h3 => ?_, fun i q hi hq => ?_, fun r r0 r1 => ?_, fun k k0 k1 => ?_, fun k k0 k1 => ?_⟩
  · have h1 := hq.1
    have h2 := hq.2
    rw [e _ (by omega) (by omega)]; exact M.ch q hq
  · have h1 := hq.1
    have h2 := hq.2
    have := bit1_le hm
    rw [e _ (by omega) (by omega)]; exact M.gb m q hm hq
  · have h1 := hq.1
    have h2 := hq.2
    have := bit1_le hm
    have h3 := (O.rows hm hq).2
    have h4 := O.ch q hq
    rw [e _ (by omega) (by omega)]; exact M.wt m q r a hm hq r0 r1 b0 b1
  · rw [e _ (by omega) (by omega)]; exact M.dx i i0 i1
  · rw [e _ (by omega) (by omega)]; exact M.dy i i0 i1
  · have h1 := hi.1
    have h2 := hi.2
    rw [e _ (by omega) (by omega)]; exact M.ask i hi
  · have h1 := hi.1
    have h2 := hi.2
    rw [e _ (by omega) (by omega)]; exact M.dr i hi
  · have h1 := hi.1
    have h2 := hi.2
    rw [e _ (by omega) (by omega)]; exact M.fr i hi
  · have h1 := hi.1
    have h2 := hi.2
    rw [e _ (by omega) (by omega)]; exact M.tt i hi
  · have h1 := hi.1
    have h2 := hi.2
    rw [e _ (by omega) (by omega)]; exact M.cd i hi
  · have h1 := hi.1
    have h2 := hi.2
    rw [e _ (by omega) (by omega)]; exact M.tr i hi
  · have h1 := hi.1
    have h2 := hi.2
    rw [e _ (by omega) (by omega)]; exact M.hf i hi h3
  · have h1 := hi.1
    have h2 := hi.2
    have h3 := hq.1
    have h4 := hq.2
    rw [e _ (by omega) (by omega)]; exact M.pa i q hi hq
  · rw [e _ (by omega) (by omega)]; exact M.rs r r0 r1
  · rw [e _ (by omega) (by omega)]; exact M.op k k0 k1
  · rw [e _ (by omega) (by omega)]; exact M.nm k k0 k1
theorem SR.sh {g : KG} {h : KH} {s l r : Int} {A : St} (S : SR g h s l r A) : SH g h s l r := ⟨S.to_, S.pl, S.pr, S.L.to_, S.L.tl.to_, S.L.tm.to_, S.R.to_⟩
def Wd.mkd (W : Wd) (A : St) (mks : Int → St) (n : Int) : Wd := Wd.mk_ A mks n W.ts W.tm W.tv W.tp W.fed 0 W.top W.bot W.fk W.fp W.hm W.hd W.fs
def Wd.mark (W : Wd) : Wd × Int := if W.nmk < 3 then (W.mkd W.cur (fun i => if i = W.nmk then W.cur else W.mks i) (W.nmk + 1), W.nmk + 1) else (W.st 4, -1)
def Wd.back (W : Wd) : Wd × Int := if 0 < W.nmk then (W.mkd (W.mks (W.nmk - 1)) W.mks (W.nmk - 1), W.nmk - 1) else (W.st 6, -1)
theorem CR.mkd {g : KG} {h h2 : KH} {W : Wd} {A : St} {mks : Int → St} {n l r l2 r2 : Int} (C1 : CK g h) (C2 : CJ g h) (C3 : CX g h W l2 r2) (C4 : CT h W) (C5 : CF h W) (e : ∀ a, 1 ≤ a → a < 63 → (a < 6 ∨ 30 < a) → (a < 39 ∨ 54 < a) → h2 a = h a) (e0 : ∀ j, j ≠ 11 → j ≠ 14 → h2 0 j = h 0 j) (s0 : h2 0 11 = 0) (n0 : h2 0 14 = n) (nr : 0 ≤ n ∧ n ≤ 3) (C6 : CM g h2 (W.mkd A mks n)) (C7 : CS g h2 (W.mkd A mks n) l r l2 r2) : CR g h2 (W.mkd A mks n) := by
  have y2 := e 2 (by decide) (by decide) (by decide) (by decide)
  have y3 := e 3 (by decide) (by decide) (by decide) (by decide)
  refine ⟨l, r, l2, r2, C1.keepg (e 1 (by decide) (by decide) (by decide) (by decide)) (by rw [y2]) (by rw [e 4 (by decide) (by decide) (by decide) (by decide)]) (by rw [e 5 (by decide) (by decide) (by decide) (by decide)]) (e 31 (by decide) (by decide) (by decide) (by decide)) (e 32 (by decide) (by decide) (by decide) (by decide)) (e 36 (by decide) (by decide) (by decide) (by decide)) (fun t t0 t1 => by rw [e _ (by omega) (by omega) (by omega) (by omega)]), ⟨C2.k35, by rw [e 35 (by decide) (by decide) (by decide) (by decide)]; exact C2.p35⟩, ?_, ?_, ⟨by rw [y2]; exact C5.fed, C5.f7, by rw [y3]; exact C5.tp, by rw [e0 15 (by decide) (by decide), y2]; exact C5.fa, C5.tb⟩, C6, C7⟩
  · exact ⟨C3.k0, by rw [e0 0 (by decide) (by decide)]; exact C3.p0, by rw [e0 1 (by decide) (by decide)]; exact C3.p1, by rw [e0 2 (by decide) (by decide)]; exact C3.p2, by rw [e0 3 (by decide) (by decide)]; exact C3.p3, by rw [e0 4 (by decide) (by decide)]; exact C3.p4, by rw [e0 5 (by decide) (by decide)]; exact C3.p5, by rw [e0 6 (by decide) (by decide)]; exact C3.p6, by rw [e0 7 (by decide) (by decide)]; exact C3.p7, by rw [e0 8 (by decide) (by decide)]; exact C3.p8, by rw [e0 9 (by decide) (by decide)]; exact C3.p9, by rw [e0 10 (by decide) (by decide)]; exact C3.p10, s0, by rw [e0 12 (by decide) (by decide)]; exact C3.top, by rw [e0 13 (by decide) (by decide)]; exact C3.bot, n0, nr, by rw [e0 17 (by decide) (by decide)]; exact C3.hm, by rw [e0 16 (by decide) (by decide)]; exact C3.hd, by rw [e0 18 (by decide) (by decide)]; exact C3.fs⟩
  · exact C4.keep (fun a _ _ => e a (by omega) (by omega) (by omega) (by omega))
theorem C131 {W : Wd} : Cw 131 [xR 0] 4 W W.mark := by
  intro g h C d Q hQ
  have C0 := C
  obtain ⟨l, r, l2, r2, C1, C2, C3, C4, C5, C6, C7⟩ := C
  have nm := C3.nm3
  unfold Wd.mark at hQ
  rw [E131, ga C3.k0, C3.nmk]
  by_cases hn : W.nmk < 3
  · rw [if_pos hn] at hQ
    have t31 := C1.t31 W.nmk nm.1 hn
    have X := C6.sh W.nmk nm.1 hn
    have hl := C7.l
    have hr := C7.r
    rw [if_pos hn, ga C3.k0, ga C3.k0, C3.p5, ga ⟨Or.inr C1.k31, nm.1, by rw [C1.l31]; exact hn⟩, ga C3.k0, t31, C3.p4, ga X.sk.k0]
    refine S49 X C7.S C7.O (by unfold Lay; omega) (by unfold Lay; omega) (by omega) (fun h1 S1 k1 => ?_)
    unfold near at k1
    have y0 : h1 0 = h 0 := k1 0 (by omega)
    rw [o0, List.nil_append, B131_30, ga C3.k0, ga C3.k0, ga C3.k0, y0, C3.nmk, w32_id (by omega) (by omega), hset_e, ga C3.k0]
    simp only [S133 (k := C3.k0), S134 (k := C3.k0), S135 (k := C3.k0), S136 (k := C3.k0), o1, o0, List.cons_append, List.nil_append, B131_48]
    generalize eF : hset (hset h1 0 14 (W.nmk + 1)) 0 11 0 = hF
    have kF : ∀ a, a ≠ 0 → hF a = h1 a := fun a ha => by rw [← eF, hset_a _ _ _ ha, hset_a _ _ _ ha]
    have S7 := C7.keep (h2 := h1) (fun a _ _ _ => k1 a (by omega))
    have S8 := S7.keep (h2 := hF) (fun a _ _ _ => kF a (by omega))
    refine hQ hF (CR.mkd (l := l) (r := r) C1 C2 C3 C4 C5 (fun a a0 a1 a2 a3 => by rw [kF a (by omega), k1 a (by omega)]) (fun j j1 j2 => by rw [← eF, hset_i _ _ j1, hset_i _ _ j2, y0]) (by rw [← eF, hset_e]) (by rw [← eF, hset_i _ _ (by decide), hset_e]) (by omega) ⟨by show W.nmk + 1 ≤ 3; omega, fun i i0 i1 => ?_, fun i i0 i1 => ?_⟩ S8) (fun a ha => by rw [kF a (by omega), k1 a (by omega)])
    · by_cases hi : i = W.nmk
      · rw [hi]
        exact S1.sh.keep (kF _ (by omega)) (fun a _ _ => kF a (by omega)) (fun a _ _ => kF a (by omega))
      · exact (C6.sh i i0 i1).keep (by rw [kF _ (by omega), k1 _ (by omega)]) (fun a _ _ => by rw [kF a (by omega), k1 a (by omega)]) (fun a _ _ => by rw [kF a (by omega), k1 a (by omega)])
    · have i1 : i < W.nmk + 1 := i1
      show SR g hF (63 + 25 * i) (64 + 25 * i) (77 + 25 * i) (if i = W.nmk then W.cur else W.mks i) ∧ (if i = W.nmk then W.cur else W.mks i).Ok
      by_cases hi : i = W.nmk
      · rw [if_pos hi, hi]
        exact ⟨S1.keep (kF _ (by omega)) (fun a _ _ => kF a (by omega)) (fun a _ _ => kF a (by omega)) (fun a _ _ => kF a (by omega)), C7.O⟩
      · rw [if_neg hi]
        obtain ⟨z1, z2⟩ := C6.mk i i0 (by omega)
        exact ⟨z1.keep (by rw [kF _ (by omega), k1 _ (by omega)]) (fun a _ _ => by rw [kF a (by omega), k1 a (by omega)]) (fun a _ _ => by rw [kF a (by omega), k1 a (by omega)]) (fun a _ _ => by rw [kF a (by omega), k1 a (by omega)]), z2⟩
  · rw [if_neg hn] at hQ
    rw [if_neg hn, ga C3.k0]
    simp only [S133 (k := C3.k0), S134 (k := C3.k0), S135 (k := C3.k0), S136 (k := C3.k0), o1, o0, List.cons_append, List.nil_append, B131_13]
    exact cst C0 hQ
theorem C132 {W : Wd} : Cw 132 [xR 0] 4 W W.back := by
  intro g h C d Q hQ
  have C0 := C
  obtain ⟨l, r, l2, r2, C1, C2, C3, C4, C5, C6, C7⟩ := C
  have nm := C3.nm3
  unfold Wd.back at hQ
  rw [E132, ga C3.k0, C3.nmk]
  by_cases hn : 0 < W.nmk
  · rw [if_pos hn] at hQ
    have t31 := C1.t31 (W.nmk - 1) (by omega) (by omega)
    obtain ⟨Y, YO⟩ := C6.mk (W.nmk - 1) (by omega) (by omega)
    have hl := C7.l
    have hr := C7.r
    rw [if_pos hn]
    generalize eA : hset h 0 14 (W.nmk - 1) = hA
    have kA : ∀ a, a ≠ 0 → hA a = h a := fun a ha => by rw [← eA, hset_a _ _ _ ha]
    have gA : ∀ j, j ≠ 14 → hA 0 j = h 0 j := fun j hj => by rw [← eA, hset_i _ _ hj]
    have vA : hA 0 14 = W.nmk - 1 := by rw [← eA, hset_e]
    rw [w32_id (by omega) (by omega), eA, gA 5 (by decide), gA 4 (by decide), vA, C3.p5, C3.p4, kA 31 (by decide), t31]
    rw [ga C3.k0, ga C3.k0, ga C3.k0, ga C3.k0, ga C3.k0, ga ⟨Or.inr C1.k31, by omega, by rw [C1.l31]; omega⟩, ga C7.S.k0]
    have X : SH g hA 6 l r := C7.S.sh.keep (kA _ (by omega)) (fun a _ _ => kA a (by omega)) (fun a _ _ => kA a (by omega))
    have Y1 := Y.keep (h2 := hA) (kA _ (by omega)) (fun a _ _ => kA a (by omega)) (fun a _ _ => kA a (by omega)) (fun a _ _ => kA a (by omega))
    refine S49 X Y1 YO (by unfold Lay; omega) (by unfold Lay; omega) (by omega) (fun h1 S1 k1 => ?_)
    unfold near at k1
    have y0 : h1 0 = hA 0 := k1 0 (by omega)
    rw [o0, List.nil_append, B132_40, ga C3.k0, ga C3.k0, y0, vA]
    simp only [S133 (k := C3.k0), S134 (k := C3.k0), S135 (k := C3.k0), S136 (k := C3.k0), o1, o0, List.cons_append, List.nil_append, B132_48]
    generalize eF : hset h1 0 11 0 = hF
    have kF : ∀ a, a ≠ 0 → hF a = h1 a := fun a ha => by rw [← eF, hset_a _ _ _ ha]
    have kB : ∀ a, a ≠ 0 → (a < 6 ∨ 55 ≤ a ∨ (31 ≤ a ∧ a < 39)) → hF a = h a := fun a a0 a1 => by rw [kF a a0, k1 a (by omega), kA a a0]
    have k2 : ∀ a, l2 ≤ a → a ≤ l2 + 12 → hF a = h a := fun a a0 a1 => by rw [kF a (by omega), k1 a (by omega), kA a (by omega)]
    have k3 : ∀ a, r2 ≤ a → a ≤ r2 + 2 → hF a = h a := fun a a0 a1 => by rw [kF a (by omega), k1 a (by omega), kA a (by omega)]
    refine hQ hF (CR.mkd (l := l) (r := r) C1 C2 C3 C4 C5 (fun a a0 a1 a2 a3 => kB a (by omega) (by omega)) (fun j j1 j2 => by rw [← eF, hset_i _ _ j1, y0, gA j j2]) (by rw [← eF, hset_e]) (by rw [← eF, hset_i _ _ (by decide), y0, vA]) (by omega) ⟨by show W.nmk - 1 ≤ 3; omega, fun i i0 i1 => ?_, fun i i0 i1 => ?_⟩ ⟨hl, hr, ?_, YO, C7.lk.keep k2, C7.tl.keep (fun a _ _ => k2 a (by omega) (by omega)), C7.tm.keep (fun a _ _ => k2 a (by omega) (by omega)), C7.rk.keep k3, by rw [k3 _ (by omega) (by omega)]; exact C7.rz⟩) (fun a ha => kB a (by omega) (by omega))
    · exact (C6.sh i i0 i1).keep (kB _ (by omega) (by omega)) (fun a _ _ => kB a (by omega) (by omega)) (fun a _ _ => kB a (by omega) (by omega))
    · have i1 : i < W.nmk - 1 := i1
      obtain ⟨z1, z2⟩ := C6.mk i i0 (by omega)
      exact ⟨z1.keep (kB _ (by omega) (by omega)) (fun a _ _ => kB a (by omega) (by omega)) (fun a _ _ => kB a (by omega) (by omega)) (fun a _ _ => kB a (by omega) (by omega)), z2⟩
    · exact S1.keep (kF _ (by omega)) (fun a _ _ => kF a (by omega)) (fun a _ _ => kF a (by omega)) (fun a _ _ => kF a (by omega))
  · rw [if_neg hn] at hQ
    rw [if_neg hn, ga C3.k0]
    simp only [S133 (k := C3.k0), S134 (k := C3.k0), S135 (k := C3.k0), S136 (k := C3.k0), o1, o0, List.cons_append, List.nil_append, B132_13]
    exact cst C0 hQ
theorem S262 {g : KG} {h : KH} {a b : Int} (K : MK g h) (ha : 0 ≤ a ∧ a ≤ 3600) (hb : 0 ≤ b ∧ b ≤ 3600) (D : a + 900 ≤ b ∨ b + 900 ≤ a) {d : Nat} {Q : Option KV → KG → KH → Prop} (hQ : ∀ h2 : KH, (∀ c, c ≠ 139 → h2 c = h c) → (∀ j, 0 ≤ j → j < 900 → h2 139 (b + j) = h 139 (a + j)) → (∀ j, (j < b ∨ b + 900 ≤ j) → h2 139 j = h 139 j) → Q none g h2) : Cl (d + 1) 262 [xR 138, xI a, xI b] g h Q := by
  have L : ∀ n k : Nat, k + n = 900 → ∀ h1 : KH, (∀ c, c ≠ 139 → h1 c = h c) → (∀ j, 0 ≤ j → j < (k : Int) → h1 139 (b + j) = h 139 (a + j)) → (∀ j, (j < b ∨ b + 900 ≤ j) → h1 139 j = h 139 j) → Rn d 262 2 [xR 138, xI a, xI b, xI (k : Int)] [] g h1 Q := by
    intro n
    induction n with
    | zero =>
      intro k hk h1 q1 q2 q3
      rw [B262_2, if_pos (by omega)]
      exact hQ h1 q1 (fun j j0 j1 => q2 j j0 (by omega)) q3
    | succ n ih =>
      intro k hk h1 q1 q2 q3
      have e1 : ((k : Int) + 1) = ((k + 1 : Nat) : Int) := by omega
      rw [B262_2, if_neg (by omega), ga K.k0, ga K.k0, q1 138 (by decide), K.pat]
      simp (disch := omega) only [w32_id]
      rw [ga ⟨K.kat, by omega, by rw [K.lat]; omega⟩, ga ⟨K.kat, by decide, by omega, by rw [K.lat]; omega⟩, e1]
      refine ih (k + 1) (by omega) _ (fun c hc => by rw [hset_a _ _ _ hc, q1 c hc]) (fun j j0 j1 => ?_) (fun j hj => by rw [hset_i _ _ (by omega)]; exact q3 j hj)
      by_cases hj : j = k
      · rw [hj, hset_e]; exact q3 _ (by omega)
      · rw [hset_i _ _ (by omega)]; exact q2 j j0 (by omega)
  rw [E262]
  exact L 900 0 (by omega) h (fun _ _ => rfl) (fun j j0 j1 => by omega) (fun _ _ => rfl)
theorem MR.mkd {g : KG} {h h2 : KH} {W : Wd} {A : St} {mks : Int → St} {n : Int} (C : MR g h W) (e : ∀ a, 140 ≤ a → a < 155 → h2 a = h a) (e0 : ∀ j, j ≠ 1 → j ≠ 40 → h2 138 j = h 138 j) (s0 : h2 138 1 = 0) (n0 : h2 138 40 = n) (cu : MS (h2 139) A) (mk : ∀ i, 0 ≤ i → i < n → MS (fun j => h2 139 (900 * (i + 1) + j)) (mks i)) : MR g h2 (W.mkd A mks n) := by
  obtain ⟨K, X, D⟩ := C
  exact ⟨K.keep (fun j hj => e0 j (by omega) (by omega)), ⟨s0, by rw [e0 2 (by decide) (by decide)]; exact X.top, by rw [e0 3 (by decide) (by decide)]; exact X.bot, by rw [e0 9 (by decide) (by decide)]; exact X.fed, by rw [e0 15 (by decide) (by decide)]; exact X.fk, by rw [e0 16 (by decide) (by decide)]; exact X.fp, by rw [e0 35 (by decide) (by decide)]; exact X.hm, by rw [e0 38 (by decide) (by decide)]; exact X.fs, n0⟩, ⟨by rw [e 141 (by decide) (by decide)]; exact D.tm, by rw [e 140 (by decide) (by decide)]; exact D.ts, by rw [e 142 (by decide) (by decide)]; exact D.tv, by rw [e 143 (by decide) (by decide)]; exact D.tp, by rw [e 152 (by decide) (by decide)]; exact D.hd, cu, mk⟩⟩
theorem C263 {W : Wd} (G : W.Rg) : Mw 263 [xR 138] 2 W W.mark := by
  intro g h C O d Q hQ
  have K := C.1
  have M := C.2.2.cur
  have nm := G.2.2.1
  unfold Wd.mark at hQ
  rw [E263, ga K.k0, C.2.1.nmk]
  by_cases hn : W.nmk < 3
  · rw [if_pos hn] at hQ
    rw [if_pos (by omega), ga K.k0, ga K.k0, ga K.k0, hset_e]
    simp (disch := omega) only [w32_id]
    rw [ga K.k0]
    generalize eA : hset h 138 40 (W.nmk + 1) = hA
    have kA : ∀ a, a ≠ 138 → hA a = h a := fun a ha => by rw [← eA, hset_a _ _ _ ha]
    have gA : ∀ j, j ≠ 40 → hA 138 j = h 138 j := fun j hj => by rw [← eA, hset_i _ _ hj]
    have vA : hA 138 40 = W.nmk + 1 := by rw [← eA, hset_e]
    refine S262 (K.keep (fun j hj => gA j (by omega))) (by omega) (by omega) (by omega) (fun h1 q1 q2 q3 => ?_)
    have y0 : h1 138 = hA 138 := q1 138 (by decide)
    rw [o0, List.nil_append, B263_37, ga K.k0, ga K.k0, y0, vA]
    simp only [S160 (k := K.k0), S161 (k := K.k0), S162 (k := K.k0), o1, o0, List.cons_append, List.nil_append, B263_45]
    have z : ∀ a, a ≠ 138 → (hset h1 138 1 0) a = h1 a := fun a ha => hset_a _ _ _ ha
    refine hQ _ (C.mkd (fun a a0 a1 => by rw [z a (by omega), q1 a (by omega), kA a (by omega)]) (fun j j1 j2 => by rw [hset_i _ _ j1, y0, gA j j2]) (hset_e _ _ _ _) (by rw [hset_i _ _ (by decide), y0, vA]) ?_ (fun i i0 i1 => ?_)) (fun a ha => by rw [z a (by omega), q1 a (by omega), kA a (by omega)])
    · rw [z 139 (by decide)]
      exact M.keepb O (fun j j0 j1 => by rw [q3 j (by omega), kA 139 (by decide)])
    · rw [z 139 (by decide)]
      show MS _ (if i = W.nmk then W.cur else W.mks i)
      by_cases hi : i = W.nmk
      · rw [if_pos hi, hi]
        refine M.keepb O (fun j j0 j1 => ?_)
        show h1 139 (900 * (W.nmk + 1) + j) = h 139 j
        rw [q2 j j0 j1, kA 139 (by decide)]
        congr 1; omega
      · rw [if_neg hi]
        refine (C.2.2.mk i i0 (by omega)).keepb (G.2.2.2 i i0 (by omega)) (fun j j0 j1 => ?_)
        show h1 139 (900 * (i + 1) + j) = h 139 (900 * (i + 1) + j)
        rw [q3 _ (by omega), kA 139 (by decide)]
  · rw [if_neg hn] at hQ
    rw [if_neg (by omega), ga K.k0]
    simp only [S160 (k := K.k0), S161 (k := K.k0), S162 (k := K.k0), o1, o0, List.cons_append, List.nil_append, B263_13]
    exact mst C hQ
theorem C264 {W : Wd} (G : W.Rg) : Mw 264 [xR 138] 2 W W.back := by
  intro g h C O d Q hQ
  have K := C.1
  have M := C.2.2.cur
  have nm := G.2.2.1
  unfold Wd.back at hQ
  rw [E264, ga K.k0, C.2.1.nmk]
  by_cases hn : 0 < W.nmk
  · rw [if_pos hn] at hQ
    rw [if_pos (by omega), ga K.k0, ga K.k0, w32_id (by omega) (by omega)]
    refine S262 K (by omega) (by omega) (by omega) (fun h1 q1 q2 q3 => ?_)
    have y0 : h1 138 = h 138 := q1 138 (by decide)
    rw [o0, List.nil_append, B264_27, ga K.k0, ga K.k0, ga K.k0, hset_e, y0, C.2.1.nmk, w32_id (by omega) (by omega), ga K.k0]
    simp only [S160 (k := K.k0), S161 (k := K.k0), S162 (k := K.k0), o1, o0, List.cons_append, List.nil_append, B264_45]
    have z : ∀ a, a ≠ 138 → (hset (hset h1 138 40 (W.nmk - 1)) 138 1 0) a = h1 a := fun a ha => by rw [hset_a _ _ _ ha, hset_a _ _ _ ha]
    refine hQ _ (C.mkd (fun a a0 a1 => by rw [z a (by omega), q1 a (by omega)]) (fun j j1 j2 => by rw [hset_i _ _ j1, hset_i _ _ j2, y0]) (hset_e _ _ _ _) (by rw [hset_i _ _ (by decide), hset_e]) ?_ (fun i i0 i1 => ?_)) (fun a ha => by rw [z a (by omega), q1 a (by omega)])
    · rw [z 139 (by decide)]
      refine (C.2.2.mk (W.nmk - 1) (by omega) (by omega)).keepb (G.2.2.2 _ (by omega) (by omega)) (fun j j0 j1 => ?_)
      show h1 139 j = h 139 (900 * (W.nmk - 1 + 1) + j)
      have e := q2 j j0 j1
      have e1 : (0 : Int) + j = j := by omega
      have e2 : 900 * (W.nmk - 1 + 1) + j = 900 * W.nmk + j := by omega
      rw [e1] at e
      rw [e2]; exact e
    · rw [z 139 (by decide)]
      refine (C.2.2.mk i i0 (by omega)).keepb (G.2.2.2 i i0 (by omega)) (fun j j0 j1 => ?_)
      show h1 139 (900 * (i + 1) + j) = h 139 (900 * (i + 1) + j)
      rw [q3 _ (by omega)]
  · rw [if_neg hn] at hQ
    rw [if_neg (by omega), ga K.k0]
    simp only [S160 (k := K.k0), S161 (k := K.k0), S162 (k := K.k0), o1, o0, List.cons_append, List.nil_append, B264_13]
    exact mst C hQ
