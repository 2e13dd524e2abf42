/-! amiss -/
abbrev St.ams (A : St) (x y : Int) : Prop := x ≠ y ∧ A.ask x = A.ask y ∧ ((A.ahd x y ∧ ¬ A.fit y x) ∨ (¬ A.ahd x y ∧ ¬ A.fit x y))
theorem S60 {g : KG} {h : KH} {l r : Int} {A : St} (S : SR g h 6 l r A) (O : A.Ok) {x y : Int} (hx : ins A x) (hy : ins A y) {d : Nat} {Q : Option KV → KG → KH → Prop} (hQ : Q (some (xI (bz (A.ams x y)))) g h) : Cl (d + 4) 60 [xR 6, xI x, xI y] g h Q := by
  have h16 := O.ns
  have x0 := hx.1
  have x1 := hx.2
  have y0 := hy.1
  have y1 := hy.2
  rw [E60]
  by_cases hxy : x = y
  · rw [if_pos hxy, B60_20, g01]
    rw [bzf (fun z => z.1 hxy)] at hQ
    exact hQ
  · rw [if_neg hxy, ga S.k0, S.n3, ga ⟨S.m23, x0, by rw [S.w23]; omega⟩, ga S.k0, ga ⟨S.m23, y0, by rw [S.w23]; omega⟩, S.v23 x hx, S.v23 y hy]
    by_cases ha : A.ask x = A.ask y
    · rw [if_pos ha, ga S.k0]
      refine S58 S O hx hy ?_
      rw [o1, List.cons_append, List.nil_append, B60_28]
      by_cases hd : A.fr x < A.fr y ∨ (A.fr x = A.fr y ∧ x < y)
      · rw [bzt hd, if_neg (by decide), ga S.k0]
        refine S59 S O hy hx ?_
        rw [o1, List.cons_append, List.nil_append, B60_37]
        by_cases hf : A.tt x + A.mins (A.dr x) (A.dr y) ≤ A.fr y
        · rw [bzf (fun z => by rcases z.2.2 with z | z; exact z.2 hf; exact z.1 hd)] at hQ
          rw [bzt hf, if_pos (by decide), B60_62, g01]
          exact hQ
        · rw [bzt ⟨hxy, ha, Or.inl ⟨hd, hf⟩⟩] at hQ
          rw [bzf hf, if_neg (by decide), B60_62, g11]
          exact hQ
      · rw [bzf hd, if_pos rfl, ga S.k0]
        refine S59 S O hx hy ?_
        rw [o1, List.cons_append, List.nil_append, B60_54]
        by_cases hf : A.tt y + A.mins (A.dr y) (A.dr x) ≤ A.fr x
        · rw [bzf (fun z => by rcases z.2.2 with z | z; exact hd z.1; exact z.2 hf)] at hQ
          rw [bzt hf, if_pos (by decide), B60_62, g01]
          exact hQ
        · rw [bzt ⟨hxy, ha, Or.inr ⟨hd, hf⟩⟩] at hQ
          rw [bzf hf, if_neg (by decide), B60_62, g11]
          exact hQ
    · rw [if_neg ha, B60_20, g01]
      rw [bzf (fun z => ha z.2.1)] at hQ
      exact hQ
def St.amj (A : St) (a i : Int) : Nat → Int
  | 0 => 0
  | j + 1 => A.amj a i j + bz (A.ask i = a ∧ A.ams i j)
def St.amc (A : St) (a : Int) : Nat → Int
  | 0 => 0
  | i + 1 => A.amc a i + A.amj a i i
theorem amj_r (A : St) (a i : Int) : ∀ j : Nat, 0 ≤ A.amj a i j ∧ A.amj a i j ≤ j := by
  intro j
  induction j with
  | zero => exact ⟨Int.le_refl 0, Int.le_refl 0⟩
  | succ j ih =>
    have := @bzr (A.ask i = a ∧ A.ams i j) _
    unfold St.amj
    omega
theorem amc_r (A : St) (a : Int) : ∀ n : Nat, n ≤ 16 → 0 ≤ A.amc a n ∧ A.amc a n ≤ 16 * n := by
  intro n
  induction n with
  | zero => intro _; exact ⟨Int.le_refl 0, Int.le_refl 0⟩
  | succ n ih =>
    intro hn
    have := ih (by omega)
    have := amj_r A a n n
    unfold St.amc
    omega
def Wd.amiss (W : Wd) (a : Int) : Int × Int := if 0 ≤ a ∧ a ≤ 3 then (0, W.cur.amc a W.cur.ns.toNat) else (1, -1)
theorem C113 {W : Wd} {a : Int} : Ci 113 [xR 0, xI a] 5 W (W.amiss a) := by
  intro g h C d Q hQ
  have C0 := C
  obtain ⟨l, r, l2, r2, C1, C2, C3, C4, C5, C6, C7⟩ := C
  unfold Wd.amiss at hQ
  rw [E113, S145]
  by_cases ha : 0 ≤ a ∧ a ≤ 3
  · rw [if_pos ha] at hQ
    have O := C7.O
    have S := C7.S
    have hns := O.ns
    rw [bzt ha, o1, List.cons_append, List.nil_append, B113_4, if_pos (by decide)]
    have outer : ∀ n i : Nat, i + n = W.cur.ns.toNat → ∀ x : KV, Rn (d + 4) 113 17 [xR 0, xI a, xI (W.cur.amc a i), xI (i : Int), x] [] g h Q := by
      intro n
      induction n with
      | zero =>
        intro i hi x
        have hi : i = W.cur.ns.toNat := by omega
        rw [B113_17, ga C3.k0, C3.p4, ga S.k0, S.ns, if_pos (by omega), ga C3.k0]
        simp only [S133 (k := C3.k0), S134 (k := C3.k0), S135 (k := C3.k0), S136 (k := C3.k0), o1, o0, List.cons_append, List.nil_append, B113_83]
        rw [hi]
        exact cst C0 hQ
      | succ n ih =>
        intro i hi x
        have hii : ins W.cur i := ⟨by omega, by omega⟩
        have e1 : ((i : Int) + 1) = ((i + 1 : Nat) : Int) := by omega
        have cr := amc_r W.cur a i (by omega)
        have inner : ∀ m j : Nat, j + m = i → Rn (d + 4) 113 31 [xR 0, xI a, xI (W.cur.amc a i + W.cur.amj a i j), xI (i : Int), xI (j : Int)] [] g h Q := by
          intro m
          induction m with
          | zero =>
            intro j hj
            have hj : j = i := by omega
            rw [B113_31, if_pos (by omega), w32_id (by omega) (by omega), e1, hj]
            exact ih (i + 1) (by omega) _
          | succ m im =>
            intro j hj
            have hjj : ins W.cur j := ⟨by omega, by omega⟩
            have e2 : ((j : Int) + 1) = ((j + 1 : Nat) : Int) := by omega
            have jr := amj_r W.cur a i j
            have nx := im (j + 1) (by omega)
            rw [St.amj] at nx
            rw [B113_31, if_neg (by omega), ga C3.k0, C3.p4, ga S.k0, S.n3, ga ⟨S.m23, by omega, by rw [S.w23]; omega⟩, S.v23 i hii]
            by_cases hs : W.cur.ask i = a
            · rw [if_neg (by simp [hs]), ga C3.k0, ga S.k0]
              refine S60 S O hii hjj ?_
              rw [o1, List.cons_append, List.nil_append, B113_60]
              by_cases hm : W.cur.ams i j
              · rw [bzt ⟨hs, hm⟩] at nx
                rw [bzt hm, if_neg (by decide), B113_66, w32_id (by omega) (by omega), w32_id (by omega) (by omega), e2, Int.add_assoc]
                exact nx
              · rw [bzf (fun z => hm z.2), Int.add_zero] at nx
                rw [bzf hm, if_pos rfl, B113_66, w32_id (by omega) (by omega), e2]
                exact nx
            · rw [bzf (fun z => hs z.1), Int.add_zero] at nx
              rw [if_pos hs, B113_66, w32_id (by omega) (by omega), e2]
              exact nx
        rw [B113_17, ga C3.k0, C3.p4, ga S.k0, S.ns, if_neg (by omega)]
        have := inner i 0 (by omega)
        rw [St.amj, Int.add_zero] at this
        exact this
    exact outer W.cur.ns.toNat 0 (by omega) _
  · rw [if_neg ha] at hQ
    rw [bzf ha, o1, List.cons_append, List.nil_append, B113_4, if_neg (by decide), ga C3.k0]
    simp only [S133 (k := C3.k0), S134 (k := C3.k0), S135 (k := C3.k0), S136 (k := C3.k0), o1, o0, List.cons_append, List.nil_append, B113_12]
    exact cst C0 hQ
/-! sums over lists -/
def lsum (f : Int → Int) : List Int → Int
  | [] => 0
  | x :: xs => f x + lsum f xs
def psum (f : Int → Int → Int) : List Int → Int
  | [] => 0
  | x :: xs => lsum (f x) xs + psum f xs
theorem lsum_app (f : Int → Int) (L2 : List Int) : ∀ L1 : List Int, lsum f (L1 ++ L2) = lsum f L1 + lsum f L2 := by
  intro L1
  induction L1 with
  | nil => exact (Int.zero_add _).symm
  | cons x xs ih => rw [List.cons_append, lsum, lsum, ih, Int.add_assoc]
theorem lsum_con {f f2 : Int → Int} : ∀ L : List Int, (∀ x ∈ L, f x = f2 x) → lsum f L = lsum f2 L := by
  intro L
  induction L with
  | nil => intro _; rfl
  | cons x xs ih => intro H; rw [lsum, lsum, H x (List.mem_cons_self ..), ih (fun y hy => H y (List.mem_cons_of_mem _ hy))]
theorem psum_ins (f : Int → Int → Int) (s : Int) (L2 : List Int) : ∀ L1 : List Int, psum f (L1 ++ s :: L2) = psum f (L1 ++ L2) + lsum (fun x => f x s) L1 + lsum (f s) L2 := by
  intro L1
  induction L1 with
  | nil => rw [List.nil_append, List.nil_append, psum, lsum]; omega
  | cons x xs ih =>
    rw [List.cons_append, List.cons_append, psum, psum, ih, lsum, lsum_app, lsum_app, lsum]
    omega
def St.osum (A : St) (a : Int) (f : Int → Int) : Nat → Int
  | 0 => 0
  | n + 1 => A.osum a f n + if A.ask n = a then f n else 0
theorem lsum_ordl (A : St) (a : Int) (f : Int → Int) : ∀ n : Nat, lsum f (A.ordl a n) = A.osum a f n := by
  intro n
  induction n with
  | zero => rfl
  | succ n ih =>
    rw [St.osum, St.ordl]
    split
    · unfold insl
      rw [lsum_app, lsum, ← ih]
      have := lsum_app f ((A.ordl a n).drop (plc A.fr n (A.ordl a n) (A.ordl a n).length)) ((A.ordl a n).take (plc A.fr n (A.ordl a n) (A.ordl a n).length))
      rw [List.take_append_drop] at this
      omega
    · rw [ih, Int.add_zero]
theorem amj_osum (A : St) (a i : Int) (hi : A.ask i = a) : ∀ j : Nat, A.amj a i j = A.osum a (fun x => bz (A.ams i x)) j := by
  intro j
  induction j with
  | zero => rfl
  | succ j ih =>
    rw [St.amj, St.osum, ih]
    congr 1
    by_cases hj : A.ask j = a
    · rw [if_pos hj]
      exact bzc ⟨fun z => z.2, fun z => ⟨hi, z⟩⟩
    · rw [if_neg hj]
      exact bzf (fun z => hj (by rw [← z.2.2.1]; exact hi))
theorem amj_no (A : St) (a i : Int) (hi : A.ask i ≠ a) : ∀ j : Nat, A.amj a i j = 0 := by
  intro j
  induction j with
  | zero => rfl
  | succ j ih => rw [St.amj, ih, bzf (fun z => hi z.1)]; rfl
theorem amc_psum (A : St) (a : Int) : ∀ n : Nat, psum (fun x y => bz (¬ A.fit y x)) (A.ordl a n) = A.amc a n := by
  intro n
  induction n with
  | zero => rfl
  | succ n ih =>
    have so := ordl_sorted A a (n + 1)
    have me := ordl_mem A a
    rw [St.amc]
    by_cases hn : A.ask n = a
    · rw [amj_osum A a n hn, ← lsum_ordl, ← ih]
      rw [St.ordl, if_pos hn] at so ⊢
      unfold insl at so ⊢
      generalize plc A.fr n (A.ordl a n) (A.ordl a n).length = k at *
      have e : lsum (fun x => bz (A.ams n x)) (A.ordl a n) = lsum (fun x => bz (A.ams n x)) ((A.ordl a n).take k) + lsum (fun x => bz (A.ams n x)) ((A.ordl a n).drop k) := by
        rw [← lsum_app, List.take_append_drop]
      rw [psum_ins, List.take_append_drop, e]
      rw [List.pairwise_append] at so
      obtain ⟨so1, so2, so3⟩ := so
      have e1 : lsum (fun x => bz (¬ A.fit n x)) ((A.ordl a n).take k) = lsum (fun x => bz (A.ams n x)) ((A.ordl a n).take k) := by
        refine lsum_con _ (fun x hx => bzc ?_)
        have p := so3 x hx n (List.mem_cons_self ..)
        have q := (me x n).mp (List.mem_of_mem_take hx)
        have na : ¬ A.ahd n x := by unfold St.ahd at p ⊢; omega
        exact ⟨fun z => ⟨by omega, by rw [hn, q.2.2], Or.inr ⟨na, z⟩⟩, fun z => by rcases z.2.2 with z | z; exact absurd z.1 na; exact z.2⟩
      have e2 : lsum (fun x => bz (¬ A.fit x n)) ((A.ordl a n).drop k) = lsum (fun x => bz (A.ams n x)) ((A.ordl a n).drop k) := by
        refine lsum_con _ (fun x hx => bzc ?_)
        have p := (List.pairwise_cons.mp so2).1 x hx
        have q := (me x n).mp (List.mem_of_mem_drop hx)
        exact ⟨fun z => ⟨by omega, by rw [hn, q.2.2], Or.inl ⟨p, z⟩⟩, fun z => by rcases z.2.2 with z | z; exact z.2; exact absurd p z.1⟩
      rw [← e1, ← e2]
      omega
    · rw [St.ordl, if_neg hn, ih, amj_no A a n hn, Int.add_zero]
theorem drop_c {L : List Int} {j : Nat} (h : j < L.length) : L.drop j = L.getD j 0 :: L.drop (j + 1) := by
  rw [List.drop_eq_getElem_cons h, List.getD_eq_getElem?_getD, List.getElem?_eq_getElem h]
  rfl
theorem C228 {W : Wd} {a : Int} : Mi 228 [xR 138, xI a] 5 W (W.amiss a) := by
  intro g h C O d Q hQ
  have K := C.1
  have M := C.2.2.cur
  unfold Wd.amiss at hQ
  rw [E228, S202]
  by_cases ha : 0 ≤ a ∧ a ≤ 3
  · rw [if_pos ha, ← amc_psum] at hQ
    have hns := O.ns
    rw [bzt ha, o1, List.cons_append, List.nil_append, B228_5, if_pos (by decide), ga K.k0]
    refine S225 K M O (fun h1 a1 n1 f1 t1 => ?_)
    have len := ordl_len W.cur a W.cur.ns.toNat
    have hm : ∀ x ∈ W.cur.ordl a W.cur.ns.toNat, ins W.cur x := fun x hx => by
      have z := (ordl_mem W.cur a x _).mp hx
      exact ⟨z.1, by omega⟩
    have mem : ∀ j, j < (W.cur.ordl a W.cur.ns.toNat).length → ins W.cur ((W.cur.ordl a W.cur.ns.toNat).getD j 0) := fun j hj => hm _ (getD_mem hj)
    generalize hLd : W.cur.ordl a W.cur.ns.toNat = L at *
    have K1 : MK g h1 := K.keep (fun j hj => t1 j (by omega))
    have M1 : MS (h1 139) W.cur := by rw [f1 139 (by decide) (by decide)]; exact M
    rw [o0, List.nil_append, B228_19]
    have outer : ∀ n i : Nat, i + n = L.length → ∀ acc : Int, (0 ≤ acc ∧ acc ≤ 16 * i) → ∀ x : KV, (acc + psum (fun x y => bz (¬ W.cur.fit y x)) (L.drop i) = psum (fun x y => bz (¬ W.cur.fit y x)) L) → Rn (d + 4) 228 23 [xR 138, xI a, xI acc, xI (i : Int), x] [] g h1 Q := by
      intro n
      induction n with
      | zero =>
        intro i hi acc hb x he
        have hi : i = L.length := by omega
        rw [hi, List.drop_length, psum, Int.add_zero] at he
        rw [B228_23, ga K.k0, n1, if_pos (by omega), ga K.k0]
        simp only [S160 (k := K.k0), S161 (k := K.k0), S162 (k := K.k0), o1, o0, List.cons_append, List.nil_append, B228_90]
        rw [he]
        exact hQ _ (C.st (fun c c0 c1 c2 => by rw [hset_a _ _ _ (by omega), f1 c (by omega) (by omega)]) (fun j hj => by rw [hset_i _ _ hj.1, t1 j (by omega)]) (hset_e _ _ _ _)) (fun c hc => by rw [hset_a _ _ _ (by omega), f1 c (by omega) (by omega)])
      | succ n ih =>
        intro i hi acc hb x he
        have e1 : ((i : Int) + 1) = ((i + 1 : Nat) : Int) := by omega
        have v2 := a1 i (by omega)
        rw [drop_c (by omega), psum] at he
        have inner : ∀ m j : Nat, j + m = L.length → i + 1 ≤ j → ∀ acc2 : Int, (0 ≤ acc2 ∧ acc2 ≤ 16 * i + (j - i - 1)) → (acc2 + (lsum (fun y => bz (¬ W.cur.fit y (L.getD i 0))) (L.drop j) + psum (fun x y => bz (¬ W.cur.fit y x)) (L.drop (i + 1))) = psum (fun x y => bz (¬ W.cur.fit y x)) L) → Rn (d + 4) 228 36 [xR 138, xI a, xI acc2, xI (i : Int), xI (j : Int)] [] g h1 Q := by
          intro m
          induction m with
          | zero =>
            intro j hj hij acc2 hb2 he2
            have hj : j = L.length := by omega
            rw [hj, List.drop_length, lsum, Int.zero_add] at he2
            rw [B228_36, ga K.k0, n1, if_pos (by omega), w32_id (by omega) (by omega), e1]
            exact ih (i + 1) (by omega) acc2 (by omega) _ he2
          | succ m im =>
            intro j hj hij acc2 hb2 he2
            have e2 : ((j : Int) + 1) = ((j + 1 : Nat) : Int) := by omega
            have v1 := a1 j (by omega)
            rw [drop_c (show j < L.length by omega), lsum] at he2
            rw [B228_36, ga K.k0, n1, if_neg (by omega), ga K.k0, K1.p28, ga ⟨K.k147, by omega, by rw [K.l147]; omega⟩, ga K.k0, ga ⟨K.k147, by omega, by rw [K.l147]; omega⟩, ga K.k0, v1, v2]
            refine S226 K1 M1 O (mem _ (by omega)) (mem _ (by omega)) ?_
            rw [o1, List.cons_append, List.nil_append, B228_63]
            by_cases hf : W.cur.fit (L.getD j 0) (L.getD i 0)
            · have hf2 : W.cur.tt (L.getD i 0) + W.cur.mins (W.cur.dr (L.getD i 0)) (W.cur.dr (L.getD j 0)) ≤ W.cur.fr (L.getD j 0) := hf
              have hz : bz (¬ W.cur.fit (L.getD j 0) (L.getD i 0)) = 0 := bzf (fun z => z hf)
              rw [bzt hf2, if_neg (by decide), B228_71, w32_id (by omega) (by omega), w32_id (by omega) (by omega), e2, Int.add_zero]
              exact im (j + 1) (by omega) (by omega) _ (by omega) (by omega)
            · have hf2 : ¬ W.cur.tt (L.getD i 0) + W.cur.mins (W.cur.dr (L.getD i 0)) (W.cur.dr (L.getD j 0)) ≤ W.cur.fr (L.getD j 0) := hf
              have hz : bz (¬ W.cur.fit (L.getD j 0) (L.getD i 0)) = 1 := bzt hf
              rw [bzf hf2, if_pos rfl, B228_71, w32_id (by omega) (by omega), w32_id (by omega) (by omega), e2]
              exact im (j + 1) (by omega) (by omega) _ (by omega) (by omega)
        rw [B228_23, ga K.k0, n1, if_neg (by omega), w32_id (by omega) (by omega), e1]
        exact inner n (i + 1) (by omega) (by omega) acc (by omega) he
    exact outer L.length 0 (by omega) 0 (by omega) xU (by rw [List.drop_zero, Int.zero_add])
  · rw [if_neg ha] at hQ
    rw [bzf ha, o1, List.cons_append, List.nil_append, B228_5, if_neg (by decide), ga K.k0]
    simp only [S160 (k := K.k0), S161 (k := K.k0), S162 (k := K.k0), o1, o0, List.cons_append, List.nil_append, B228_13]
    exact mst C hQ
