/-! THE CONSTRUCTORS (printed by wip/tools/mk99i.py) -/
theorem gnN (g : KG) (c n z : Int) : gN (gnew g c n z) = gN g + 1 := rfl
theorem gnK (g : KG) (c n z b : Int) : gK (gnew g c n z) b = if b = gN g then c else gK g b := rfl
theorem gnL (g : KG) (c n z b : Int) : gL (gnew g c n z) b = if b = gN g then n else gL g b := rfl
theorem gnC (g : KG) (c n z : Int) : gC (gnew g c n z) = gC g + 1 := rfl
theorem gnS (g : KG) (c n z : Int) : gS (gnew g c n z) = gS g + z := rfl
theorem hsv (h : KH) (a i v b j : Int) : hset h a i v b j = if b = a ∧ j = i then v else h b j := rfl
theorem hnv (h : KH) (a : Int) (f : Int → Int) (b j : Int) : hnew h a f b j = if b = a then f j else h b j := rfl
theorem gnK_e {g : KG} {c n z b : Int} (e : b = gN g) : gK (gnew g c n z) b = c := by rw [gnK, if_pos e]
theorem gnK_n {g : KG} {c n z b : Int} (e : b ≠ gN g) : gK (gnew g c n z) b = gK g b := by rw [gnK, if_neg e]
theorem gnL_e {g : KG} {c n z b : Int} (e : b = gN g) : gL (gnew g c n z) b = n := by rw [gnL, if_pos e]
theorem gnL_n {g : KG} {c n z b : Int} (e : b ≠ gN g) : gL (gnew g c n z) b = gL g b := by rw [gnL, if_neg e]
theorem hs_i {h : KH} {a i v b j : Int} (e : j ≠ i) : hset h a i v b j = h b j := by rw [hset_i h v e]
theorem hs_a {h : KH} {a i v b j : Int} (e : b ≠ a) : hset h a i v b j = h b j := by rw [hset_a h i v e]
theorem hn_e {h : KH} {a j : Int} {f : Int → Int} : hnew h a f a j = f j := by rw [hnv, if_pos rfl]
theorem hn_a {h : KH} {a b j : Int} {f : Int → Int} (e : b ≠ a) : hnew h a f b j = h b j := by rw [hnv, if_neg e]
/-- what a constructor of the newest object a has done -/
def Gw (g : KG) (h : KH) (g2 : KG) (h2 : KH) (a m c s : Int) : Prop := (gN g2 = m) ∧ (∀ b, b ≤ a → gK g2 b = gK g b) ∧ (∀ b, b ≤ a → gL g2 b = gL g b) ∧ (∀ b j, b < a → h2 b j = h b j) ∧ (gC g2 = gC g + c) ∧ (gS g2 = gS g + s)
theorem Gw.n {g : KG} {h : KH} {g2 : KG} {h2 : KH} {a m c s : Int} (z_ : Gw g h g2 h2 a m c s) : gN g2 = m := z_.1
theorem Gw.k {g : KG} {h : KH} {g2 : KG} {h2 : KH} {a m c s : Int} (z_ : Gw g h g2 h2 a m c s) : ∀ b, b ≤ a → gK g2 b = gK g b := z_.2.1
theorem Gw.l {g : KG} {h : KH} {g2 : KG} {h2 : KH} {a m c s : Int} (z_ : Gw g h g2 h2 a m c s) : ∀ b, b ≤ a → gL g2 b = gL g b := z_.2.2.1
theorem Gw.f {g : KG} {h : KH} {g2 : KG} {h2 : KH} {a m c s : Int} (z_ : Gw g h g2 h2 a m c s) : ∀ b j, b < a → h2 b j = h b j := z_.2.2.2.1
theorem Gw.c {g : KG} {h : KH} {g2 : KG} {h2 : KH} {a m c s : Int} (z_ : Gw g h g2 h2 a m c s) : gC g2 = gC g + c := z_.2.2.2.2.1
theorem Gw.s {g : KG} {h : KH} {g2 : KG} {h2 : KH} {a m c s : Int} (z_ : Gw g h g2 h2 a m c s) : gS g2 = gS g + s := z_.2.2.2.2.2
/-- the same objects from p to q -/
def Sm (g : KG) (h : KH) (g2 : KG) (h2 : KH) (p q : Int) : Prop := (∀ b, p ≤ b → b ≤ q → gK g2 b = gK g b) ∧ (∀ b, p ≤ b → b ≤ q → gL g2 b = gL g b) ∧ (∀ b, p ≤ b → b ≤ q → h2 b = h b)
theorem Sm.k {g : KG} {h : KH} {g2 : KG} {h2 : KH} {p q : Int} (z_ : Sm g h g2 h2 p q) : ∀ b, p ≤ b → b ≤ q → gK g2 b = gK g b := z_.1
theorem Sm.l {g : KG} {h : KH} {g2 : KG} {h2 : KH} {p q : Int} (z_ : Sm g h g2 h2 p q) : ∀ b, p ≤ b → b ≤ q → gL g2 b = gL g b := z_.2.1
theorem Sm.f {g : KG} {h : KH} {g2 : KG} {h2 : KH} {p q : Int} (z_ : Sm g h g2 h2 p q) : ∀ b, p ≤ b → b ≤ q → h2 b = h b := z_.2.2
theorem TK.sm {g g2 : KG} {h h2 : KH} {t : Int} (T : TK g h t) (M : Sm g h g2 h2 t (t + 3)) : TK g2 h2 t :=
  ⟨(M.k _ (by omega) (by omega)).trans T.k0, (M.k _ (by omega) (by omega)).trans T.k1, (M.l _ (by omega) (by omega)).trans T.l1, (M.k _ (by omega) (by omega)).trans T.k2, (M.l _ (by omega) (by omega)).trans T.l2, (M.k _ (by omega) (by omega)).trans T.k3, (M.l _ (by omega) (by omega)).trans T.l3, by rw [M.f t (by omega) (by omega)]; exact T.p0, by rw [M.f t (by omega) (by omega)]; exact T.p1, by rw [M.f t (by omega) (by omega)]; exact T.p2⟩
theorem LK.sm {g g2 : KG} {h h2 : KH} {l : Int} (T : LK g h l) (M : Sm g h g2 h2 l (l + 12)) : LK g2 h2 l :=
  ⟨(M.k _ (by omega) (by omega)).trans T.k0, (M.k _ (by omega) (by omega)).trans T.k1, (M.l _ (by omega) (by omega)).trans T.l1, (M.k _ (by omega) (by omega)).trans T.k2, (M.l _ (by omega) (by omega)).trans T.l2, (M.k _ (by omega) (by omega)).trans T.k11, (M.l _ (by omega) (by omega)).trans T.l11, (M.k _ (by omega) (by omega)).trans T.k12, (M.l _ (by omega) (by omega)).trans T.l12, by rw [M.f l (by omega) (by omega)]; exact T.p1, by rw [M.f l (by omega) (by omega)]; exact T.p2, by rw [M.f l (by omega) (by omega)]; exact T.p3, by rw [M.f l (by omega) (by omega)]; exact T.p4, by rw [M.f l (by omega) (by omega)]; exact T.p6, by rw [M.f l (by omega) (by omega)]; exact T.p7⟩
theorem RK.sm {g g2 : KG} {h h2 : KH} {r : Int} (T : RK g h r) (M : Sm g h g2 h2 r (r + 2)) : RK g2 h2 r :=
  ⟨(M.k _ (by omega) (by omega)).trans T.k0, (M.k _ (by omega) (by omega)).trans T.k1, (M.l _ (by omega) (by omega)).trans T.l1, (M.k _ (by omega) (by omega)).trans T.k2, (M.l _ (by omega) (by omega)).trans T.l2, by rw [M.f r (by omega) (by omega)]; exact T.p2, by rw [M.f r (by omega) (by omega)]; exact T.p3⟩
theorem SK.sm {g g2 : KG} {h h2 : KH} {s : Int} (T : SK g h s) (M : Sm g h g2 h2 s (s + 24)) : SK g2 h2 s :=
  ⟨(M.k _ (by omega) (by omega)).trans T.k0, (M.k _ (by omega) (by omega)).trans T.k17, (M.l _ (by omega) (by omega)).trans T.l17, (M.k _ (by omega) (by omega)).trans T.k18, (M.l _ (by omega) (by omega)).trans T.l18, (M.k _ (by omega) (by omega)).trans T.k19, (M.l _ (by omega) (by omega)).trans T.l19, (M.k _ (by omega) (by omega)).trans T.k20, (M.l _ (by omega) (by omega)).trans T.l20, (M.k _ (by omega) (by omega)).trans T.k21, (M.l _ (by omega) (by omega)).trans T.l21, (M.k _ (by omega) (by omega)).trans T.k22, (M.l _ (by omega) (by omega)).trans T.l22, (M.k _ (by omega) (by omega)).trans T.k23, (M.l _ (by omega) (by omega)).trans T.l23, (M.k _ (by omega) (by omega)).trans T.k24, (M.l _ (by omega) (by omega)).trans T.l24, by rw [M.f s (by omega) (by omega)]; exact T.p3, by rw [M.f s (by omega) (by omega)]; exact T.p4, by rw [M.f s (by omega) (by omega)]; exact T.p5, by rw [M.f s (by omega) (by omega)]; exact T.p6, by rw [M.f s (by omega) (by omega)]; exact T.p7, by rw [M.f s (by omega) (by omega)]; exact T.p8, by rw [M.f s (by omega) (by omega)]; exact T.p9, by rw [M.f s (by omega) (by omega)]; exact T.p10⟩
theorem Sm.sub {g g2 : KG} {h h2 : KH} {p q p2 q2 : Int} (M : Sm g h g2 h2 p q) (hp : p ≤ p2) (hq : q2 ≤ q) : Sm g h g2 h2 p2 q2 :=
  ⟨fun b x y => M.k b (by omega) (by omega), fun b x y => M.l b (by omega) (by omega), fun b x y => M.f b (by omega) (by omega)⟩
theorem Sm.tr {g g1 g2 : KG} {h h1 h2 : KH} {p q q1 : Int} (M : Sm g h g1 h1 p q) (M2 : Sm g1 h1 g2 h2 p q1) (hq : q ≤ q1) : Sm g h g2 h2 p q :=
  ⟨fun b x y => (M2.k b x (by omega)).trans (M.k b x y), fun b x y => (M2.l b x (by omega)).trans (M.l b x y), fun b x y => (M2.f b x (by omega)).trans (M.f b x y)⟩
theorem SH.sm {g g2 : KG} {h h2 : KH} {s : Int} (T : SH g h s (s + 1) (s + 14)) (M : Sm g h g2 h2 s (s + 24)) : SH g2 h2 s (s + 1) (s + 14) :=
  ⟨T.sk.sm M, by rw [M.f s (by omega) (by omega)]; exact T.pl, by rw [M.f s (by omega) (by omega)]; exact T.pr, T.lk.sm (M.sub (by omega) (by omega)), T.tl.sm (M.sub (by omega) (by omega)), T.tm.sm (M.sub (by omega) (by omega)), T.rk.sm (M.sub (by omega) (by omega))⟩
def LZ (h : KH) (l : Int) : Prop := (h l 0 = 0) ∧ (h l 5 = 0) ∧ (h l 8 = 10) ∧ (h l 9 = 14) ∧ (h l 10 = 2)
theorem LZ.nq {h : KH} {l : Int} (z_ : LZ h l) : h l 0 = 0 := z_.1
theorem LZ.nd {h : KH} {l : Int} (z_ : LZ h l) : h l 5 = 0 := z_.2.1
theorem LZ.wk {h : KH} {l : Int} (z_ : LZ h l) : h l 8 = 10 := z_.2.2.1
theorem LZ.ca {h : KH} {l : Int} (z_ : LZ h l) : h l 9 = 14 := z_.2.2.2.1
theorem LZ.cm {h : KH} {l : Int} (z_ : LZ h l) : h l 10 = 2 := z_.2.2.2.2
def RZ (h : KH) (r : Int) : Prop := (h r 0 = 0) ∧ (h r 1 = 0) ∧ (h (r + 1) 0 = 0)
theorem RZ.nr {h : KH} {r : Int} (z_ : RZ h r) : h r 0 = 0 := z_.1
theorem RZ.ln {h : KH} {r : Int} (z_ : RZ h r) : h r 1 = 0 := z_.2.1
theorem RZ.rs {h : KH} {r : Int} (z_ : RZ h r) : h (r + 1) 0 = 0 := z_.2.2
/-- one array of 16 more, in a field j of s -/
def Al (g : KG) (h : KH) (g2 : KG) (h2 : KH) (s n j : Int) : Prop := (gN g2 = n + 1) ∧ (gK g2 n = 20) ∧ (gL g2 n = 16) ∧ (∀ b, b < n → gK g2 b = gK g b) ∧ (∀ b, b < n → gL g2 b = gL g b) ∧ (∀ b i, b < n → b ≠ s → h2 b i = h b i) ∧ (h2 s j = n) ∧ (∀ i, i ≠ j → h2 s i = h s i) ∧ (gC g2 = gC g + 1) ∧ (gS g2 = gS g + 16)
theorem Al.n {g : KG} {h : KH} {g2 : KG} {h2 : KH} {s n j : Int} (z_ : Al g h g2 h2 s n j) : gN g2 = n + 1 := z_.1
theorem Al.kn {g : KG} {h : KH} {g2 : KG} {h2 : KH} {s n j : Int} (z_ : Al g h g2 h2 s n j) : gK g2 n = 20 := z_.2.1
theorem Al.ln {g : KG} {h : KH} {g2 : KG} {h2 : KH} {s n j : Int} (z_ : Al g h g2 h2 s n j) : gL g2 n = 16 := z_.2.2.1
theorem Al.k {g : KG} {h : KH} {g2 : KG} {h2 : KH} {s n j : Int} (z_ : Al g h g2 h2 s n j) : ∀ b, b < n → gK g2 b = gK g b := z_.2.2.2.1
theorem Al.l {g : KG} {h : KH} {g2 : KG} {h2 : KH} {s n j : Int} (z_ : Al g h g2 h2 s n j) : ∀ b, b < n → gL g2 b = gL g b := z_.2.2.2.2.1
theorem Al.f {g : KG} {h : KH} {g2 : KG} {h2 : KH} {s n j : Int} (z_ : Al g h g2 h2 s n j) : ∀ b i, b < n → b ≠ s → h2 b i = h b i := z_.2.2.2.2.2.1
theorem Al.e {g : KG} {h : KH} {g2 : KG} {h2 : KH} {s n j : Int} (z_ : Al g h g2 h2 s n j) : h2 s j = n := z_.2.2.2.2.2.2.1
theorem Al.o {g : KG} {h : KH} {g2 : KG} {h2 : KH} {s n j : Int} (z_ : Al g h g2 h2 s n j) : ∀ i, i ≠ j → h2 s i = h s i := z_.2.2.2.2.2.2.2.1
theorem Al.c {g : KG} {h : KH} {g2 : KG} {h2 : KH} {s n j : Int} (z_ : Al g h g2 h2 s n j) : gC g2 = gC g + 1 := z_.2.2.2.2.2.2.2.2.1
theorem Al.s {g : KG} {h : KH} {g2 : KG} {h2 : KH} {s n j : Int} (z_ : Al g h g2 h2 s n j) : gS g2 = gS g + 16 := z_.2.2.2.2.2.2.2.2.2
theorem Al.one {g : KG} {h : KH} {s n j : Int} (N : gN g = n) (sn : s < n) : Al g h (gnew g 20 16 16) (hset (hnew h n (fun _ => 0)) s j n) s n j :=
  ⟨by rw [gnN, N], gnK_e N.symm, gnL_e N.symm, fun b hb => gnK_n (by omega), fun b hb => gnL_n (by omega), fun b i hb hs => by rw [hs_a hs, hn_a (by omega)], hset_e _ _ _ _, fun i hi => by rw [hs_i hi, hn_a (by omega)], gnC _ _ _ _, gnS _ _ _ _⟩
theorem S65 {g : KG} {h : KH} {t : Int} (t0 : 0 ≤ t) (N : gN g = t + 1) (k : gK g t = 8) {d : Nat} {Q : Option KV → KG → KH → Prop} (hQ : ∀ g2 h2, Gw g h g2 h2 t (t + 4) 3 108 → TK g2 h2 t → Q none g2 h2) : Cl (d + 1) 65 [xR t] g h Q := by
  have e2 : gN (gnew g 20 6 6) = t + 2 := by (try simp only [gnN]) <;> omega
  have e3 : gN (gnew (gnew g 20 6 6) 23 6 6) = t + 3 := by (try simp only [gnN]) <;> omega
  rw [E65, ga ⟨t0, by omega⟩, ga (by decide), ga ⟨by (try simp (disch := omega) only [gnK_e, gnK_n, gnL_e, gnL_n]) <;> assumption, by omega⟩, ga (by decide), ga ⟨by (try simp (disch := omega) only [gnK_e, gnK_n, gnL_e, gnL_n]) <;> assumption, by omega⟩, ga (by decide), e3, e2, N, B65_25, ga ⟨by (try simp (disch := omega) only [gnK_e, gnK_n, gnL_e, gnL_n]) <;> assumption, by omega⟩]
  exact hQ _ _ ⟨by (try simp only [gnN]) <;> omega, fun b hb => by (try simp (disch := omega) only [gnK_e, gnK_n, gnL_e, gnL_n]) <;> assumption, fun b hb => by (try simp (disch := omega) only [gnK_e, gnK_n, gnL_e, gnL_n]) <;> assumption, fun b j hb => by (try simp (disch := omega) only [hset_e, hs_i, hs_a, hn_e, hn_a]) <;> first | assumption | omega, by (try simp only [gnC]) <;> omega, by (try simp only [gnS]) <;> omega⟩ ⟨by (try simp (disch := omega) only [gnK_e, gnK_n, gnL_e, gnL_n]) <;> assumption, by (try simp (disch := omega) only [gnK_e, gnK_n, gnL_e, gnL_n]) <;> assumption, by (try simp (disch := omega) only [gnK_e, gnK_n, gnL_e, gnL_n]) <;> assumption, by (try simp (disch := omega) only [gnK_e, gnK_n, gnL_e, gnL_n]) <;> assumption, by (try simp (disch := omega) only [gnK_e, gnK_n, gnL_e, gnL_n]) <;> assumption, by (try simp (disch := omega) only [gnK_e, gnK_n, gnL_e, gnL_n]) <;> assumption, by (try simp (disch := omega) only [gnK_e, gnK_n, gnL_e, gnL_n]) <;> assumption, by (try simp (disch := omega) only [hset_e, hs_i, hs_a, hn_e, hn_a]) <;> first | assumption | omega, by (try simp (disch := omega) only [hset_e, hs_i, hs_a, hn_e, hn_a]) <;> first | assumption | omega, by (try simp (disch := omega) only [hset_e, hs_i, hs_a, hn_e, hn_a]) <;> first | assumption | omega⟩
theorem S35 {g : KG} {h : KH} {r : Int} (r0 : 0 ≤ r) (N : gN g = r + 1) (k : gK g r = 5) (z0 : h r 0 = 0) (z1 : h r 1 = 0) {d : Nat} {Q : Option KV → KG → KH → Prop} (hQ : ∀ g2 h2, Gw g h g2 h2 r (r + 3) 2 305 → RK g2 h2 r → RZ h2 r → Q none g2 h2) : Cl (d + 1) 35 [xR r] g h Q := by
  have e2 : gN (gnew g 20 5 5) = r + 2 := by (try simp only [gnN]) <;> omega
  rw [E35, ga ⟨r0, by omega⟩, ga (by decide), ga ⟨by (try simp (disch := omega) only [gnK_e, gnK_n, gnL_e, gnL_n]) <;> assumption, by omega⟩, ga (by decide), ga ⟨by (try simp (disch := omega) only [gnK_e, gnK_n, gnL_e, gnL_n]) <;> assumption, by omega⟩, e2, N]
  exact hQ _ _ ⟨by (try simp only [gnN]) <;> omega, fun b hb => by (try simp (disch := omega) only [gnK_e, gnK_n, gnL_e, gnL_n]) <;> assumption, fun b hb => by (try simp (disch := omega) only [gnK_e, gnK_n, gnL_e, gnL_n]) <;> assumption, fun b j hb => by (try simp (disch := omega) only [hset_e, hs_i, hs_a, hn_e, hn_a]) <;> first | assumption | omega, by (try simp only [gnC]) <;> omega, by (try simp only [gnS]) <;> omega⟩ ⟨by (try simp (disch := omega) only [gnK_e, gnK_n, gnL_e, gnL_n]) <;> assumption, by (try simp (disch := omega) only [gnK_e, gnK_n, gnL_e, gnL_n]) <;> assumption, by (try simp (disch := omega) only [gnK_e, gnK_n, gnL_e, gnL_n]) <;> assumption, by (try simp (disch := omega) only [gnK_e, gnK_n, gnL_e, gnL_n]) <;> assumption, by (try simp (disch := omega) only [gnK_e, gnK_n, gnL_e, gnL_n]) <;> assumption, by (try simp (disch := omega) only [hset_e, hs_i, hs_a, hn_e, hn_a]) <;> first | assumption | omega, by (try simp (disch := omega) only [hset_e, hs_i, hs_a, hn_e, hn_a]) <;> first | assumption | omega⟩ ⟨by (try simp (disch := omega) only [hset_e, hs_i, hs_a, hn_e, hn_a]) <;> first | assumption | omega, by (try simp (disch := omega) only [hset_e, hs_i, hs_a, hn_e, hn_a]) <;> first | assumption | omega, by (try simp (disch := omega) only [hset_e, hs_i, hs_a, hn_e, hn_a]) <;> first | assumption | omega⟩
set_option maxHeartbeats 4000000 in
theorem S15 {g : KG} {h : KH} {l : Int} (l0 : 0 ≤ l) (N : gN g = l + 1) (k : gK g l = 3) (z0 : h l 0 = 0) (z5 : h l 5 = 0) {d : Nat} {Q : Option KV → KG → KH → Prop} (hQ : ∀ g2 h2, Gw g h g2 h2 l (l + 13) 12 266 → LK g2 h2 l → TK g2 h2 (l + 3) → TK g2 h2 (l + 7) → LZ h2 l → Q none g2 h2) : Cl (d + 2) 15 [xR l] g h Q := by
  have e2 : gN (gnew g 21 6 6) = l + 2 := by (try simp only [gnN]) <;> omega
  have e3 : gN (gnew (gnew g 21 6 6) 20 6 6) = l + 3 := by (try simp only [gnN]) <;> omega
  rw [E15, ga ⟨l0, by omega⟩, ga (by decide), ga ⟨by (try simp (disch := omega) only [gnK_e, gnK_n, gnL_e, gnL_n]) <;> assumption, by omega⟩, ga (by decide), ga ⟨by (try simp (disch := omega) only [gnK_e, gnK_n, gnL_e, gnL_n]) <;> assumption, by omega⟩, e3, e2, N, B15_24, ga (by (try simp (disch := omega) only [gnK_e, gnK_n, gnL_e, gnL_n]) <;> assumption)]
  refine S65 (t := l + 3) (by omega) (by (try simp only [gnN]) <;> omega) (by (try simp (disch := omega) only [gnK_e, gnK_n, gnL_e, gnL_n]) <;> assumption) (fun g1 h1 G1 T1 => ?_)
  have n1 : gN g1 = l + 7 := by have := G1.n; omega
  rw [o0, List.nil_append, B15_28, ga ⟨by (try simp (disch := omega) only [gnK_e, gnK_n, gnL_e, gnL_n, G1.k, G1.l]) <;> assumption, by omega⟩, n1, ga (by (try simp (disch := omega) only [gnK_e, gnK_n, gnL_e, gnL_n, G1.k, G1.l]) <;> assumption)]
  refine S65 (t := l + 7) (by omega) (by (try simp only [gnN]) <;> omega) (by (try simp (disch := omega) only [gnK_e, gnK_n, gnL_e, gnL_n, G1.k, G1.l]) <;> assumption) (fun g2 h2 G2 T2 => ?_)
  have n2 : gN g2 = l + 11 := by have := G2.n; omega
  have e4 : gN (gnew g2 20 16 16) = l + 12 := by (try simp only [gnN]) <;> omega
  have c1 := G1.c
  have c2 := G2.c
  have s1 := G1.s
  have s2 := G2.s
  simp only [gnC] at c1 c2
  simp only [gnS] at s1 s2
  rw [o0, List.nil_append, B15_39, ga ⟨by (try simp (disch := omega) only [gnK_e, gnK_n, gnL_e, gnL_n, G1.k, G1.l, G2.k, G2.l]) <;> assumption, by omega⟩, ga (by decide), ga ⟨by (try simp (disch := omega) only [gnK_e, gnK_n, gnL_e, gnL_n, G1.k, G1.l, G2.k, G2.l]) <;> assumption, by omega⟩, ga (by decide), ga ⟨by (try simp (disch := omega) only [gnK_e, gnK_n, gnL_e, gnL_n, G1.k, G1.l, G2.k, G2.l]) <;> assumption, by omega⟩, e4, n2, B15_58, ga (by (try simp (disch := omega) only [gnK_e, gnK_n, gnL_e, gnL_n, G1.k, G1.l, G2.k, G2.l]) <;> assumption), ga (by (try simp (disch := omega) only [gnK_e, gnK_n, gnL_e, gnL_n, G1.k, G1.l, G2.k, G2.l]) <;> assumption), ga (by (try simp (disch := omega) only [gnK_e, gnK_n, gnL_e, gnL_n, G1.k, G1.l, G2.k, G2.l]) <;> assumption)]
  exact hQ _ _ ⟨by (try simp only [gnN]) <;> omega, fun b hb => by (try simp (disch := omega) only [gnK_e, gnK_n, gnL_e, gnL_n, G1.k, G1.l, G2.k, G2.l]) <;> assumption, fun b hb => by (try simp (disch := omega) only [gnK_e, gnK_n, gnL_e, gnL_n, G1.k, G1.l, G2.k, G2.l]) <;> assumption, fun b j hb => by (try simp (disch := omega) only [hset_e, hs_i, hs_a, hn_e, hn_a, G1.f, G2.f]) <;> first | assumption | omega, by (try simp only [gnC]) <;> omega, by (try simp only [gnS]) <;> omega⟩ ⟨by (try simp (disch := omega) only [gnK_e, gnK_n, gnL_e, gnL_n, G1.k, G1.l, G2.k, G2.l]) <;> assumption, by (try simp (disch := omega) only [gnK_e, gnK_n, gnL_e, gnL_n, G1.k, G1.l, G2.k, G2.l]) <;> assumption, by (try simp (disch := omega) only [gnK_e, gnK_n, gnL_e, gnL_n, G1.k, G1.l, G2.k, G2.l]) <;> assumption, by (try simp (disch := omega) only [gnK_e, gnK_n, gnL_e, gnL_n, G1.k, G1.l, G2.k, G2.l]) <;> assumption, by (try simp (disch := omega) only [gnK_e, gnK_n, gnL_e, gnL_n, G1.k, G1.l, G2.k, G2.l]) <;> assumption, by (try simp (disch := omega) only [gnK_e, gnK_n, gnL_e, gnL_n, G1.k, G1.l, G2.k, G2.l]) <;> assumption, by (try simp (disch := omega) only [gnK_e, gnK_n, gnL_e, gnL_n, G1.k, G1.l, G2.k, G2.l]) <;> assumption, by (try simp (disch := omega) only [gnK_e, gnK_n, gnL_e, gnL_n, G1.k, G1.l, G2.k, G2.l]) <;> assumption, by (try simp (disch := omega) only [gnK_e, gnK_n, gnL_e, gnL_n, G1.k, G1.l, G2.k, G2.l]) <;> assumption, by (try simp (disch := omega) only [hset_e, hs_i, hs_a, hn_e, hn_a, G1.f, G2.f]) <;> first | assumption | omega, by (try simp (disch := omega) only [hset_e, hs_i, hs_a, hn_e, hn_a, G1.f, G2.f]) <;> first | assumption | omega, by (try simp (disch := omega) only [hset_e, hs_i, hs_a, hn_e, hn_a, G1.f, G2.f]) <;> first | assumption | omega, by (try simp (disch := omega) only [hset_e, hs_i, hs_a, hn_e, hn_a, G1.f, G2.f]) <;> first | assumption | omega, by (try simp (disch := omega) only [hset_e, hs_i, hs_a, hn_e, hn_a, G1.f, G2.f]) <;> first | assumption | omega, by (try simp (disch := omega) only [hset_e, hs_i, hs_a, hn_e, hn_a, G1.f, G2.f]) <;> first | assumption | omega⟩ (T1.sm ⟨fun b x y => by (try simp (disch := omega) only [gnK_e, gnK_n, gnL_e, gnL_n, G2.k, G2.l]) <;> assumption, fun b x y => by (try simp (disch := omega) only [gnK_e, gnK_n, gnL_e, gnL_n, G2.k, G2.l]) <;> assumption, fun b x y => by funext j; exact by (try simp (disch := omega) only [hset_e, hs_i, hs_a, hn_e, hn_a, G2.f]) <;> first | assumption | omega⟩) (T2.sm ⟨fun b x y => by (try simp (disch := omega) only [gnK_e, gnK_n, gnL_e, gnL_n]) <;> assumption, fun b x y => by (try simp (disch := omega) only [gnK_e, gnK_n, gnL_e, gnL_n]) <;> assumption, fun b x y => by funext j; exact by (try simp (disch := omega) only [hset_e, hs_i, hs_a, hn_e, hn_a]) <;> first | assumption | omega⟩) ⟨by (try simp (disch := omega) only [hset_e, hs_i, hs_a, hn_e, hn_a, G1.f, G2.f]) <;> first | assumption | omega, by (try simp (disch := omega) only [hset_e, hs_i, hs_a, hn_e, hn_a, G1.f, G2.f]) <;> first | assumption | omega, by (try simp (disch := omega) only [hset_e, hs_i, hs_a, hn_e, hn_a, G1.f, G2.f]) <;> first | assumption | omega, by (try simp (disch := omega) only [hset_e, hs_i, hs_a, hn_e, hn_a, G1.f, G2.f]) <;> first | assumption | omega, by (try simp (disch := omega) only [hset_e, hs_i, hs_a, hn_e, hn_a, G1.f, G2.f]) <;> first | assumption | omega⟩
def Aa (g : KG) (h : KH) (g2 : KG) (h2 : KH) (s : Int) : Prop := (gN g2 = s + 25) ∧ (gC g2 = gC g + 8) ∧ (gS g2 = gS g + 128) ∧ (∀ b, b < s + 17 → gK g2 b = gK g b) ∧ (∀ b, b < s + 17 → gL g2 b = gL g b) ∧ (∀ b j, b < s + 17 → b ≠ s → h2 b j = h b j) ∧ (∀ j, (j < 3 ∨ 10 < j) → h2 s j = h s j) ∧ (gK g2 (s + 17) = 20) ∧ (gL g2 (s + 17) = 16) ∧ (h2 s 3 = s + 17) ∧ (gK g2 (s + 18) = 20) ∧ (gL g2 (s + 18) = 16) ∧ (h2 s 4 = s + 18) ∧ (gK g2 (s + 19) = 20) ∧ (gL g2 (s + 19) = 16) ∧ (h2 s 5 = s + 19) ∧ (gK g2 (s + 20) = 20) ∧ (gL g2 (s + 20) = 16) ∧ (h2 s 6 = s + 20) ∧ (gK g2 (s + 21) = 20) ∧ (gL g2 (s + 21) = 16) ∧ (h2 s 7 = s + 21) ∧ (gK g2 (s + 22) = 20) ∧ (gL g2 (s + 22) = 16) ∧ (h2 s 8 = s + 22) ∧ (gK g2 (s + 23) = 20) ∧ (gL g2 (s + 23) = 16) ∧ (h2 s 9 = s + 23) ∧ (gK g2 (s + 24) = 20) ∧ (gL g2 (s + 24) = 16) ∧ (h2 s 10 = s + 24)
theorem Aa.n {g : KG} {h : KH} {g2 : KG} {h2 : KH} {s : Int} (z_ : Aa g h g2 h2 s) : gN g2 = s + 25 := z_.1
theorem Aa.c {g : KG} {h : KH} {g2 : KG} {h2 : KH} {s : Int} (z_ : Aa g h g2 h2 s) : gC g2 = gC g + 8 := z_.2.1
theorem Aa.z {g : KG} {h : KH} {g2 : KG} {h2 : KH} {s : Int} (z_ : Aa g h g2 h2 s) : gS g2 = gS g + 128 := z_.2.2.1
theorem Aa.k {g : KG} {h : KH} {g2 : KG} {h2 : KH} {s : Int} (z_ : Aa g h g2 h2 s) : ∀ b, b < s + 17 → gK g2 b = gK g b := z_.2.2.2.1
theorem Aa.l {g : KG} {h : KH} {g2 : KG} {h2 : KH} {s : Int} (z_ : Aa g h g2 h2 s) : ∀ b, b < s + 17 → gL g2 b = gL g b := z_.2.2.2.2.1
theorem Aa.f {g : KG} {h : KH} {g2 : KG} {h2 : KH} {s : Int} (z_ : Aa g h g2 h2 s) : ∀ b j, b < s + 17 → b ≠ s → h2 b j = h b j := z_.2.2.2.2.2.1
theorem Aa.o {g : KG} {h : KH} {g2 : KG} {h2 : KH} {s : Int} (z_ : Aa g h g2 h2 s) : ∀ j, (j < 3 ∨ 10 < j) → h2 s j = h s j := z_.2.2.2.2.2.2.1
theorem Aa.k17 {g : KG} {h : KH} {g2 : KG} {h2 : KH} {s : Int} (z_ : Aa g h g2 h2 s) : gK g2 (s + 17) = 20 := z_.2.2.2.2.2.2.2.1
theorem Aa.l17 {g : KG} {h : KH} {g2 : KG} {h2 : KH} {s : Int} (z_ : Aa g h g2 h2 s) : gL g2 (s + 17) = 16 := z_.2.2.2.2.2.2.2.2.1
theorem Aa.p3 {g : KG} {h : KH} {g2 : KG} {h2 : KH} {s : Int} (z_ : Aa g h g2 h2 s) : h2 s 3 = s + 17 := z_.2.2.2.2.2.2.2.2.2.1
theorem Aa.k18 {g : KG} {h : KH} {g2 : KG} {h2 : KH} {s : Int} (z_ : Aa g h g2 h2 s) : gK g2 (s + 18) = 20 := z_.2.2.2.2.2.2.2.2.2.2.1
theorem Aa.l18 {g : KG} {h : KH} {g2 : KG} {h2 : KH} {s : Int} (z_ : Aa g h g2 h2 s) : gL g2 (s + 18) = 16 := z_.2.2.2.2.2.2.2.2.2.2.2.1
theorem Aa.p4 {g : KG} {h : KH} {g2 : KG} {h2 : KH} {s : Int} (z_ : Aa g h g2 h2 s) : h2 s 4 = s + 18 := z_.2.2.2.2.2.2.2.2.2.2.2.2.1
theorem Aa.k19 {g : KG} {h : KH} {g2 : KG} {h2 : KH} {s : Int} (z_ : Aa g h g2 h2 s) : gK g2 (s + 19) = 20 := z_.2.2.2.2.2.2.2.2.2.2.2.2.2.1
theorem Aa.l19 {g : KG} {h : KH} {g2 : KG} {h2 : KH} {s : Int} (z_ : Aa g h g2 h2 s) : gL g2 (s + 19) = 16 := z_.2.2.2.2.2.2.2.2.2.2.2.2.2.2.1
theorem Aa.p5 {g : KG} {h : KH} {g2 : KG} {h2 : KH} {s : Int} (z_ : Aa g h g2 h2 s) : h2 s 5 = s + 19 := z_.2.2.2.2.2.2.2.2.2.2.2.2.2.2.2.1
theorem Aa.k20 {g : KG} {h : KH} {g2 : KG} {h2 : KH} {s : Int} (z_ : Aa g h g2 h2 s) : gK g2 (s + 20) = 20 := z_.2.2.2.2.2.2.2.2.2.2.2.2.2.2.2.2.1
theorem Aa.l20 {g : KG} {h : KH} {g2 : KG} {h2 : KH} {s : Int} (z_ : Aa g h g2 h2 s) : gL g2 (s + 20) = 16 := z_.2.2.2.2.2.2.2.2.2.2.2.2.2.2.2.2.2.1
theorem Aa.p6 {g : KG} {h : KH} {g2 : KG} {h2 : KH} {s : Int} (z_ : Aa g h g2 h2 s) : h2 s 6 = s + 20 := z_.2.2.2.2.2.2.2.2.2.2.2.2.2.2.2.2.2.2.1
theorem Aa.k21 {g : KG} {h : KH} {g2 : KG} {h2 : KH} {s : Int} (z_ : Aa g h g2 h2 s) : gK g2 (s + 21) = 20 := z_.2.2.2.2.2.2.2.2.2.2.2.2.2.2.2.2.2.2.2.1
theorem Aa.l21 {g : KG} {h : KH} {g2 : KG} {h2 : KH} {s : Int} (z_ : Aa g h g2 h2 s) : gL g2 (s + 21) = 16 := z_.2.2.2.2.2.2.2.2.2.2.2.2.2.2.2.2.2.2.2.2.1
theorem Aa.p7 {g : KG} {h : KH} {g2 : KG} {h2 : KH} {s : Int} (z_ : Aa g h g2 h2 s) : h2 s 7 = s + 21 := z_.2.2.2.2.2.2.2.2.2.2.2.2.2.2.2.2.2.2.2.2.2.1
theorem Aa.k22 {g : KG} {h : KH} {g2 : KG} {h2 : KH} {s : Int} (z_ : Aa g h g2 h2 s) : gK g2 (s + 22) = 20 := z_.2.2.2.2.2.2.2.2.2.2.2.2.2.2.2.2.2.2.2.2.2.2.1
theorem Aa.l22 {g : KG} {h : KH} {g2 : KG} {h2 : KH} {s : Int} (z_ : Aa g h g2 h2 s) : gL g2 (s + 22) = 16 := z_.2.2.2.2.2.2.2.2.2.2.2.2.2.2.2.2.2.2.2.2.2.2.2.1
theorem Aa.p8 {g : KG} {h : KH} {g2 : KG} {h2 : KH} {s : Int} (z_ : Aa g h g2 h2 s) : h2 s 8 = s + 22 := z_.2.2.2.2.2.2.2.2.2.2.2.2.2.2.2.2.2.2.2.2.2.2.2.2.1
theorem Aa.k23 {g : KG} {h : KH} {g2 : KG} {h2 : KH} {s : Int} (z_ : Aa g h g2 h2 s) : gK g2 (s + 23) = 20 := z_.2.2.2.2.2.2.2.2.2.2.2.2.2.2.2.2.2.2.2.2.2.2.2.2.2.1
theorem Aa.l23 {g : KG} {h : KH} {g2 : KG} {h2 : KH} {s : Int} (z_ : Aa g h g2 h2 s) : gL g2 (s + 23) = 16 := z_.2.2.2.2.2.2.2.2.2.2.2.2.2.2.2.2.2.2.2.2.2.2.2.2.2.2.1
theorem Aa.p9 {g : KG} {h : KH} {g2 : KG} {h2 : KH} {s : Int} (z_ : Aa g h g2 h2 s) : h2 s 9 = s + 23 := z_.2.2.2.2.2.2.2.2.2.2.2.2.2.2.2.2.2.2.2.2.2.2.2.2.2.2.2.1
theorem Aa.k24 {g : KG} {h : KH} {g2 : KG} {h2 : KH} {s : Int} (z_ : Aa g h g2 h2 s) : gK g2 (s + 24) = 20 := z_.2.2.2.2.2.2.2.2.2.2.2.2.2.2.2.2.2.2.2.2.2.2.2.2.2.2.2.2.1
theorem Aa.l24 {g : KG} {h : KH} {g2 : KG} {h2 : KH} {s : Int} (z_ : Aa g h g2 h2 s) : gL g2 (s + 24) = 16 := z_.2.2.2.2.2.2.2.2.2.2.2.2.2.2.2.2.2.2.2.2.2.2.2.2.2.2.2.2.2.1
theorem Aa.p10 {g : KG} {h : KH} {g2 : KG} {h2 : KH} {s : Int} (z_ : Aa g h g2 h2 s) : h2 s 10 = s + 24 := z_.2.2.2.2.2.2.2.2.2.2.2.2.2.2.2.2.2.2.2.2.2.2.2.2.2.2.2.2.2.2
theorem Aa.all {g0 g1 g2 g3 g4 g5 g6 g7 g8 : KG} {h0 h1 h2 h3 h4 h5 h6 h7 h8 : KH} {s : Int} (A1 : Al g0 h0 g1 h1 s (s + 17) 3) (A2 : Al g1 h1 g2 h2 s (s + 18) 4) (A3 : Al g2 h2 g3 h3 s (s + 19) 5) (A4 : Al g3 h3 g4 h4 s (s + 20) 6) (A5 : Al g4 h4 g5 h5 s (s + 21) 7) (A6 : Al g5 h5 g6 h6 s (s + 22) 8) (A7 : Al g6 h6 g7 h7 s (s + 23) 9) (A8 : Al g7 h7 g8 h8 s (s + 24) 10) : Aa g0 h0 g8 h8 s :=
  ⟨by have := A8.n; omega,
   by rw [A8.c, A7.c, A6.c, A5.c, A4.c, A3.c, A2.c, A1.c]; omega,
   by rw [A8.s, A7.s, A6.s, A5.s, A4.s, A3.s, A2.s, A1.s]; omega,
   fun b hb => by rw [A8.k b (by omega), A7.k b (by omega), A6.k b (by omega), A5.k b (by omega), A4.k b (by omega), A3.k b (by omega), A2.k b (by omega), A1.k b (by omega)],
   fun b hb => by rw [A8.l b (by omega), A7.l b (by omega), A6.l b (by omega), A5.l b (by omega), A4.l b (by omega), A3.l b (by omega), A2.l b (by omega), A1.l b (by omega)],
   fun b j hb hs => by rw [A8.f b j (by omega) hs, A7.f b j (by omega) hs, A6.f b j (by omega) hs, A5.f b j (by omega) hs, A4.f b j (by omega) hs, A3.f b j (by omega) hs, A2.f b j (by omega) hs, A1.f b j (by omega) hs],
   fun j hj => by rw [A8.o j (by omega), A7.o j (by omega), A6.o j (by omega), A5.o j (by omega), A4.o j (by omega), A3.o j (by omega), A2.o j (by omega), A1.o j (by omega)],
   by rw [A8.k (s + 17) (by omega), A7.k (s + 17) (by omega), A6.k (s + 17) (by omega), A5.k (s + 17) (by omega), A4.k (s + 17) (by omega), A3.k (s + 17) (by omega), A2.k (s + 17) (by omega)]; exact A1.kn,
   by rw [A8.l (s + 17) (by omega), A7.l (s + 17) (by omega), A6.l (s + 17) (by omega), A5.l (s + 17) (by omega), A4.l (s + 17) (by omega), A3.l (s + 17) (by omega), A2.l (s + 17) (by omega)]; exact A1.ln,
   by rw [A8.o 3 (by decide), A7.o 3 (by decide), A6.o 3 (by decide), A5.o 3 (by decide), A4.o 3 (by decide), A3.o 3 (by decide), A2.o 3 (by decide)]; exact A1.e,
   by rw [A8.k (s + 18) (by omega), A7.k (s + 18) (by omega), A6.k (s + 18) (by omega), A5.k (s + 18) (by omega), A4.k (s + 18) (by omega), A3.k (s + 18) (by omega)]; exact A2.kn,
   by rw [A8.l (s + 18) (by omega), A7.l (s + 18) (by omega), A6.l (s + 18) (by omega), A5.l (s + 18) (by omega), A4.l (s + 18) (by omega), A3.l (s + 18) (by omega)]; exact A2.ln,
   by rw [A8.o 4 (by decide), A7.o 4 (by decide), A6.o 4 (by decide), A5.o 4 (by decide), A4.o 4 (by decide), A3.o 4 (by decide)]; exact A2.e,
   by rw [A8.k (s + 19) (by omega), A7.k (s + 19) (by omega), A6.k (s + 19) (by omega), A5.k (s + 19) (by omega), A4.k (s + 19) (by omega)]; exact A3.kn,
   by rw [A8.l (s + 19) (by omega), A7.l (s + 19) (by omega), A6.l (s + 19) (by omega), A5.l (s + 19) (by omega), A4.l (s + 19) (by omega)]; exact A3.ln,
   by rw [A8.o 5 (by decide), A7.o 5 (by decide), A6.o 5 (by decide), A5.o 5 (by decide), A4.o 5 (by decide)]; exact A3.e,
   by rw [A8.k (s + 20) (by omega), A7.k (s + 20) (by omega), A6.k (s + 20) (by omega), A5.k (s + 20) (by omega)]; exact A4.kn,
   by rw [A8.l (s + 20) (by omega), A7.l (s + 20) (by omega), A6.l (s + 20) (by omega), A5.l (s + 20) (by omega)]; exact A4.ln,
   by rw [A8.o 6 (by decide), A7.o 6 (by decide), A6.o 6 (by decide), A5.o 6 (by decide)]; exact A4.e,
   by rw [A8.k (s + 21) (by omega), A7.k (s + 21) (by omega), A6.k (s + 21) (by omega)]; exact A5.kn,
   by rw [A8.l (s + 21) (by omega), A7.l (s + 21) (by omega), A6.l (s + 21) (by omega)]; exact A5.ln,
   by rw [A8.o 7 (by decide), A7.o 7 (by decide), A6.o 7 (by decide)]; exact A5.e,
   by rw [A8.k (s + 22) (by omega), A7.k (s + 22) (by omega)]; exact A6.kn,
   by rw [A8.l (s + 22) (by omega), A7.l (s + 22) (by omega)]; exact A6.ln,
   by rw [A8.o 8 (by decide), A7.o 8 (by decide)]; exact A6.e,
   by rw [A8.k (s + 23) (by omega)]; exact A7.kn,
   by rw [A8.l (s + 23) (by omega)]; exact A7.ln,
   by rw [A8.o 9 (by decide)]; exact A7.e,
   A8.kn,
   A8.ln,
   A8.e⟩
set_option maxHeartbeats 8000000 in
theorem S48 {g : KG} {h : KH} {s : Int} (s0 : 0 ≤ s) (N : gN g = s + 1) (k : gK g s = 7) (z2 : h s 2 = 0) {d : Nat} {Q : Option KV → KG → KH → Prop} (hQ : ∀ g2 h2, Gw g h g2 h2 s (s + 25) 24 714 → SH g2 h2 s (s + 1) (s + 14) → LZ h2 (s + 1) → RZ h2 (s + 14) → h2 s 2 = 0 → Q none g2 h2) : Cl (d + 3) 48 [xR s] g h Q := by
  rw [E48, ga ⟨s0, by omega⟩, N, ga (gnK_e N.symm)]
  refine S15 (l := s + 1) (by omega) (by rw [gnN]; omega) (gnK_e N.symm) (by rw [hnv, if_pos rfl]; decide) (by rw [hnv, if_pos rfl]; decide) (fun g1 h1 G1 L1 T1 T2 Z1 => ?_)
  have n1 : gN g1 = s + 14 := by have := G1.n; omega
  have q1 : gK g1 s = 7 := by rw [G1.k s (by omega), gnK_n (by omega)]; exact k
  rw [o0, List.nil_append, B48_12, ga ⟨q1, by omega⟩, n1, ga (gnK_e n1.symm)]
  refine S35 (r := s + 14) (by omega) (by rw [gnN]; omega) (gnK_e n1.symm) (by rw [hnv, if_pos rfl]; decide) (by rw [hnv, if_pos rfl]; decide) (fun g2 h2 G2 R1 Z2 => ?_)
  have n2 : gN g2 = s + 17 := by have := G2.n; omega
  have q2 : gK g2 s = 7 := by rw [G2.k s (by omega), gnK_n (by omega)]; exact q1
  rw [o0, List.nil_append, B48_23, ga ⟨q2, by omega⟩, n2]
  rw [ga (by decide)]
  have A1 := Al.one (g := g2) (h := hset h2 s 1 (s + 14)) (s := s) (n := s + 17) (j := 3) n2 (by omega)
  generalize gnew g2 20 16 16 = g3 at A1 ⊢
  generalize hset (hnew (hset h2 s 1 (s + 14)) (s + 17) (fun x => 0)) s 3 (s + 17) = h3 at A1 ⊢
  have m1 : gN g3 = s + 18 := by rw [A1.n]; omega
  have q3 : gK g3 s = 7 := by rw [A1.k s (by omega)]; exact q2
  rw [ga ⟨q3, by omega⟩, ga (by decide), m1]
  have A2 := Al.one (g := g3) (h := h3) (s := s) (n := s + 18) (j := 4) m1 (by omega)
  generalize gnew g3 20 16 16 = g4 at A2 ⊢
  generalize hset (hnew h3 (s + 18) (fun x => 0)) s 4 (s + 18) = h4 at A2 ⊢
  have m2 : gN g4 = s + 19 := by rw [A2.n]; omega
  have q4 : gK g4 s = 7 := by rw [A2.k s (by omega)]; exact q3
  rw [ga ⟨q4, by omega⟩, B48_42, ga (by decide), m2]
  have A3 := Al.one (g := g4) (h := h4) (s := s) (n := s + 19) (j := 5) m2 (by omega)
  generalize gnew g4 20 16 16 = g5 at A3 ⊢
  generalize hset (hnew h4 (s + 19) (fun x => 0)) s 5 (s + 19) = h5 at A3 ⊢
  have m3 : gN g5 = s + 20 := by rw [A3.n]; omega
  have q5 : gK g5 s = 7 := by rw [A3.k s (by omega)]; exact q4
  rw [ga ⟨q5, by omega⟩, ga (by decide), m3]
  have A4 := Al.one (g := g5) (h := h5) (s := s) (n := s + 20) (j := 6) m3 (by omega)
  generalize gnew g5 20 16 16 = g6 at A4 ⊢
  generalize hset (hnew h5 (s + 20) (fun x => 0)) s 6 (s + 20) = h6 at A4 ⊢
  have m4 : gN g6 = s + 21 := by rw [A4.n]; omega
  have q6 : gK g6 s = 7 := by rw [A4.k s (by omega)]; exact q5
  rw [ga ⟨q6, by omega⟩, ga (by decide), m4, B48_63, ga ⟨by rw [gnK_n (by omega)]; exact q6, by omega⟩]
  have A5 := Al.one (g := g6) (h := h6) (s := s) (n := s + 21) (j := 7) m4 (by omega)
  generalize gnew g6 20 16 16 = g7 at A5 ⊢
  generalize hset (hnew h6 (s + 21) (fun x => 0)) s 7 (s + 21) = h7 at A5 ⊢
  have m5 : gN g7 = s + 22 := by rw [A5.n]; omega
  have q7 : gK g7 s = 7 := by rw [A5.k s (by omega)]; exact q6
  rw [ga (by decide), m5]
  have A6 := Al.one (g := g7) (h := h7) (s := s) (n := s + 22) (j := 8) m5 (by omega)
  generalize gnew g7 20 16 16 = g8 at A6 ⊢
  generalize hset (hnew h7 (s + 22) (fun x => 0)) s 8 (s + 22) = h8 at A6 ⊢
  have m6 : gN g8 = s + 23 := by rw [A6.n]; omega
  have q8 : gK g8 s = 7 := by rw [A6.k s (by omega)]; exact q7
  rw [ga ⟨q8, by omega⟩, ga (by decide), m6]
  have A7 := Al.one (g := g8) (h := h8) (s := s) (n := s + 23) (j := 9) m6 (by omega)
  generalize gnew g8 20 16 16 = g9 at A7 ⊢
  generalize hset (hnew h8 (s + 23) (fun x => 0)) s 9 (s + 23) = h9 at A7 ⊢
  have m7 : gN g9 = s + 24 := by rw [A7.n]; omega
  have q9 : gK g9 s = 7 := by rw [A7.k s (by omega)]; exact q8
  rw [ga ⟨q9, by omega⟩, B48_82, ga (by decide), m7]
  have A8 := Al.one (g := g9) (h := h9) (s := s) (n := s + 24) (j := 10) m7 (by omega)
  generalize gnew g9 20 16 16 = g10 at A8 ⊢
  generalize hset (hnew h9 (s + 24) (fun x => 0)) s 10 (s + 24) = h10 at A8 ⊢
  have m8 : gN g10 = s + 25 := by rw [A8.n]; omega
  have q10 : gK g10 s = 7 := by rw [A8.k s (by omega)]; exact q9
  rw [ga ⟨q10, by omega⟩]
  have X := Aa.all A1 A2 A3 A4 A5 A6 A7 A8
  clear A1 A2 A3 A4 A5 A6 A7 A8 m1 m2 m3 m4 m5 m6 m7 m8 q3 q4 q5 q6 q7 q8 q9 q10
  have cc : gC g10 = gC g + 24 := by rw [X.c, G2.c, gnC, G1.c, gnC]; omega
  have ss : gS g10 = gS g + 714 := by rw [X.z, G2.s, gnS, G1.s, gnS]; omega
  have GW : Gw g h g10 h10 s (s + 25) 24 714 := ⟨X.n, fun b hb => by rw [X.k b (by omega), G2.k b (by omega), gnK_n (by omega), G1.k b (by omega), gnK_n (by omega)], fun b hb => by rw [X.l b (by omega), G2.l b (by omega), gnL_n (by omega), G1.l b (by omega), gnL_n (by omega)], fun b j hb => by rw [X.f b j (by omega) (by omega), hs_a (by omega), G2.f b j (by omega), hn_a (by omega), hs_a (by omega), G1.f b j (by omega), hn_a (by omega)], cc, ss⟩
  have SK_ : SK g10 h10 s := ⟨by rw [X.k s (by omega)]; exact q2, X.k17, X.l17, X.k18, X.l18, X.k19, X.l19, X.k20, X.l20, X.k21, X.l21, X.k22, X.l22, X.k23, X.l23, X.k24, X.l24, X.p3, X.p4, X.p5, X.p6, X.p7, X.p8, X.p9, X.p10⟩
  have pl : h10 s 0 = s + 1 := by rw [X.o 0 (by decide), hs_i (by decide), G2.f s 0 (by omega), hn_a (by omega), hset_e]
  have pr : h10 s 1 = s + 14 := by rw [X.o 1 (by decide), hset_e]
  have pz : h10 s 2 = 0 := by rw [X.o 2 (by decide), hs_i (by decide), G2.f s 2 (by omega), hn_a (by omega), hs_i (by decide), G1.f s 2 (by omega), hn_a (by omega)]; exact z2
  have M1 : Sm g1 h1 g10 h10 (s + 1) (s + 13) := ⟨fun b x y => by rw [X.k b (by omega), G2.k b (by omega), gnK_n (by omega)], fun b x y => by rw [X.l b (by omega), G2.l b (by omega), gnL_n (by omega)], fun b x y => by funext j; rw [X.f b j (by omega) (by omega), hs_a (by omega), G2.f b j (by omega), hn_a (by omega), hs_a (by omega)]⟩
  have M2 : Sm g2 h2 g10 h10 (s + 14) (s + 16) := ⟨fun b x y => X.k b (by omega), fun b x y => X.l b (by omega), fun b x y => by funext j; rw [X.f b j (by omega) (by omega), hs_a (by omega)]⟩
  exact hQ _ _ GW ⟨SK_, pl, pr, L1.sm (M1.sub (by omega) (by omega)), T1.sm (M1.sub (by omega) (by omega)), T2.sm (M1.sub (by omega) (by omega)), R1.sm (M2.sub (by omega) (by omega))⟩ ⟨by rw [M1.f (s + 1) (by omega) (by omega)]; exact Z1.nq, by rw [M1.f (s + 1) (by omega) (by omega)]; exact Z1.nd, by rw [M1.f (s + 1) (by omega) (by omega)]; exact Z1.wk, by rw [M1.f (s + 1) (by omega) (by omega)]; exact Z1.ca, by rw [M1.f (s + 1) (by omega) (by omega)]; exact Z1.cm⟩ ⟨by rw [M2.f (s + 14) (by omega) (by omega)]; exact Z2.nr, by rw [M2.f (s + 14) (by omega) (by omega)]; exact Z2.ln, by rw [M2.f (s + 14 + 1) (by omega) (by omega)]; exact Z2.rs⟩ pz
theorem S25_ {g : KG} {h : KH} {a p : Int} (a0 : 0 ≤ a) (N : gN g = a + 1) (k : gK g a = 4) (p0 : 0 ≤ p) {d : Nat} {Q : Option KV → KG → KH → Prop} (hQ : ∀ g2 h2, Gw g h g2 h2 a (a + 1) 0 0 → h2 a 0 = p → Q none g2 h2) : Cl (d + 1) 25 [xR a, xR p] g h Q := by
  rw [E25, ga ⟨a0, by omega⟩, ga ⟨k, p0⟩]
  exact hQ _ _ ⟨N, fun _ _ => rfl, fun _ _ => rfl, fun b j hb => by (try simp (disch := omega) only [hset_e, hs_i, hs_a, hn_e, hn_a]) <;> first | assumption | omega, by omega, by omega⟩ (by (try simp (disch := omega) only [hset_e, hs_i, hs_a, hn_e, hn_a]) <;> first | assumption | omega)
theorem S41_ {g : KG} {h : KH} {a p : Int} (a0 : 0 ≤ a) (N : gN g = a + 1) (k : gK g a = 6) (p0 : 0 ≤ p) {d : Nat} {Q : Option KV → KG → KH → Prop} (hQ : ∀ g2 h2, Gw g h g2 h2 a (a + 1) 0 0 → h2 a 0 = p → Q none g2 h2) : Cl (d + 1) 41 [xR a, xR p] g h Q := by
  rw [E41, ga ⟨a0, by omega⟩, ga ⟨k, p0⟩]
  exact hQ _ _ ⟨N, fun _ _ => rfl, fun _ _ => rfl, fun b j hb => by (try simp (disch := omega) only [hset_e, hs_i, hs_a, hn_e, hn_a]) <;> first | assumption | omega, by omega, by omega⟩ (by (try simp (disch := omega) only [hset_e, hs_i, hs_a, hn_e, hn_a]) <;> first | assumption | omega)
theorem S7_ {g : KG} {h : KH} {a p : Int} (a0 : 0 ≤ a) (N : gN g = a + 1) (k : gK g a = 2) (p0 : 0 ≤ p) {d : Nat} {Q : Option KV → KG → KH → Prop} (hQ : ∀ g2 h2, Gw g h g2 h2 a (a + 1) 0 0 → h2 a 0 = p → Q none g2 h2) : Cl (d + 1) 7 [xR a, xR p] g h Q := by
  rw [E7, ga ⟨a0, by omega⟩, ga ⟨k, p0⟩]
  exact hQ _ _ ⟨N, fun _ _ => rfl, fun _ _ => rfl, fun b j hb => by (try simp (disch := omega) only [hset_e, hs_i, hs_a, hn_e, hn_a]) <;> first | assumption | omega, by omega, by omega⟩ (by (try simp (disch := omega) only [hset_e, hs_i, hs_a, hn_e, hn_a]) <;> first | assumption | omega)
theorem S71_ {g : KG} {h : KH} {a : Int} (a0 : 0 ≤ a) (N : gN g = a + 1) (k : gK g a = 9) (z1 : h a 1 = 0) {d : Nat} {Q : Option KV → KG → KH → Prop} (hQ : ∀ g2 h2, Gw g h g2 h2 a (a + 2) 1 700 → gK g2 (a + 1) = 22 → gL g2 (a + 1) = 700 → h2 a 0 = a + 1 → h2 a 1 = 0 → Q none g2 h2) : Cl (d + 1) 71 [xR a] g h Q := by
  rw [E71, ga ⟨a0, by omega⟩, ga (by decide), ga ⟨by (try simp (disch := omega) only [gnK_e, gnK_n, gnL_e, gnL_n]) <;> assumption, by omega⟩, ga (by (try simp (disch := omega) only [gnK_e, gnK_n, gnL_e, gnL_n]) <;> assumption), N]
  exact hQ _ _ ⟨by (try simp only [gnN]) <;> omega, fun b hb => by (try simp (disch := omega) only [gnK_e, gnK_n, gnL_e, gnL_n]) <;> assumption, fun b hb => by (try simp (disch := omega) only [gnK_e, gnK_n, gnL_e, gnL_n]) <;> assumption, fun b j hb => by (try simp (disch := omega) only [hset_e, hs_i, hs_a, hn_e, hn_a]) <;> first | assumption | omega, by (try simp only [gnC]) <;> omega, by (try simp only [gnS]) <;> omega⟩ (by (try simp (disch := omega) only [gnK_e, gnK_n, gnL_e, gnL_n]) <;> assumption) (by (try simp (disch := omega) only [gnK_e, gnK_n, gnL_e, gnL_n]) <;> assumption) (by (try simp (disch := omega) only [hset_e, hs_i, hs_a, hn_e, hn_a]) <;> first | assumption | omega) (by (try simp (disch := omega) only [hset_e, hs_i, hs_a, hn_e, hn_a]) <;> first | assumption | omega)
theorem S85_ {g : KG} {h : KH} {a : Int} (a0 : 0 ≤ a) (N : gN g = a + 1) (k : gK g a = 10) {d : Nat} {Q : Option KV → KG → KH → Prop} (hQ : ∀ g2 h2, Gw g h g2 h2 a (a + 2) 1 60 → gK g2 (a + 1) = 21 → gL g2 (a + 1) = 60 → h2 a 0 = -1 → h2 a 2 = a + 1 → Q none g2 h2) : Cl (d + 1) 85 [xR a] g h Q := by
  rw [E85, ga ⟨a0, by omega⟩, ga k, ga (by decide), ga ⟨by (try simp (disch := omega) only [gnK_e, gnK_n, gnL_e, gnL_n]) <;> assumption, by omega⟩, N]
  exact hQ _ _ ⟨by (try simp only [gnN]) <;> omega, fun b hb => by (try simp (disch := omega) only [gnK_e, gnK_n, gnL_e, gnL_n]) <;> assumption, fun b hb => by (try simp (disch := omega) only [gnK_e, gnK_n, gnL_e, gnL_n]) <;> assumption, fun b j hb => by (try simp (disch := omega) only [hset_e, hs_i, hs_a, hn_e, hn_a]) <;> first | assumption | omega, by (try simp only [gnC]) <;> omega, by (try simp only [gnS]) <;> omega⟩ (by (try simp (disch := omega) only [gnK_e, gnK_n, gnL_e, gnL_n]) <;> assumption) (by (try simp (disch := omega) only [gnK_e, gnK_n, gnL_e, gnL_n]) <;> assumption) (by (try simp (disch := omega) only [hset_e, hs_i, hs_a, hn_e, hn_a]) <;> first | assumption | omega) (by (try simp (disch := omega) only [hset_e, hs_i, hs_a, hn_e, hn_a]) <;> first | assumption | omega)
theorem S2_ {g : KG} {h : KH} {a p : Int} (a0 : 0 ≤ a) (N : gN g = a + 1) (k : gK g a = 1) (p0 : 0 ≤ p) {d : Nat} {Q : Option KV → KG → KH → Prop} (hQ : ∀ g2 h2, Gw g h g2 h2 a (a + 3) 2 32 → gK g2 (a + 1) = 20 → gL g2 (a + 1) = 16 → gK g2 (a + 2) = 20 → gL g2 (a + 2) = 16 → h2 a 0 = p → h2 a 1 = a + 1 → h2 a 2 = a + 2 → Q none g2 h2) : Cl (d + 1) 2 [xR a, xR p] g h Q := by
  have e2 : gN (gnew g 20 16 16) = a + 2 := by (try simp only [gnN]) <;> omega
  rw [E2, ga ⟨a0, by omega⟩, ga (by decide), ga ⟨by (try simp (disch := omega) only [gnK_e, gnK_n, gnL_e, gnL_n]) <;> assumption, by omega⟩, ga (by decide), ga ⟨by (try simp (disch := omega) only [gnK_e, gnK_n, gnL_e, gnL_n]) <;> assumption, by omega⟩, ga ⟨by (try simp (disch := omega) only [gnK_e, gnK_n, gnL_e, gnL_n]) <;> assumption, p0⟩, e2, N, B2_25]
  exact hQ _ _ ⟨by (try simp only [gnN]) <;> omega, fun b hb => by (try simp (disch := omega) only [gnK_e, gnK_n, gnL_e, gnL_n]) <;> assumption, fun b hb => by (try simp (disch := omega) only [gnK_e, gnK_n, gnL_e, gnL_n]) <;> assumption, fun b j hb => by (try simp (disch := omega) only [hset_e, hs_i, hs_a, hn_e, hn_a]) <;> first | assumption | omega, by (try simp only [gnC]) <;> omega, by (try simp only [gnS]) <;> omega⟩ (by (try simp (disch := omega) only [gnK_e, gnK_n, gnL_e, gnL_n]) <;> assumption) (by (try simp (disch := omega) only [gnK_e, gnK_n, gnL_e, gnL_n]) <;> assumption) (by (try simp (disch := omega) only [gnK_e, gnK_n, gnL_e, gnL_n]) <;> assumption) (by (try simp (disch := omega) only [gnK_e, gnK_n, gnL_e, gnL_n]) <;> assumption) (by (try simp (disch := omega) only [hset_e, hs_i, hs_a, hn_e, hn_a]) <;> first | assumption | omega) (by (try simp (disch := omega) only [hset_e, hs_i, hs_a, hn_e, hn_a]) <;> first | assumption | omega) (by (try simp (disch := omega) only [hset_e, hs_i, hs_a, hn_e, hn_a]) <;> first | assumption | omega)
theorem S0_ {g : KG} {h : KH} {a p : Int} (a0 : 0 ≤ a) (N : gN g = a + 1) (k : gK g a = 0) (p0 : 0 ≤ p) {d : Nat} {Q : Option KV → KG → KH → Prop} (hQ : ∀ g2 h2, Gw g h g2 h2 a (a + 3) 2 2000 → gK g2 (a + 1) = 20 → gL g2 (a + 1) = 1000 → gK g2 (a + 2) = 20 → gL g2 (a + 2) = 1000 → h2 a 0 = p → h2 a 1 = a + 1 → h2 a 2 = a + 2 → Q none g2 h2) : Cl (d + 1) 0 [xR a, xR p] g h Q := by
  have e2 : gN (gnew g 20 1000 1000) = a + 2 := by (try simp only [gnN]) <;> omega
  rw [E0, ga ⟨a0, by omega⟩, ga (by decide), ga ⟨by (try simp (disch := omega) only [gnK_e, gnK_n, gnL_e, gnL_n]) <;> assumption, by omega⟩, ga (by decide), ga ⟨by (try simp (disch := omega) only [gnK_e, gnK_n, gnL_e, gnL_n]) <;> assumption, by omega⟩, e2, N, B0_22, ga ⟨by (try simp (disch := omega) only [gnK_e, gnK_n, gnL_e, gnL_n]) <;> assumption, p0⟩]
  exact hQ _ _ ⟨by (try simp only [gnN]) <;> omega, fun b hb => by (try simp (disch := omega) only [gnK_e, gnK_n, gnL_e, gnL_n]) <;> assumption, fun b hb => by (try simp (disch := omega) only [gnK_e, gnK_n, gnL_e, gnL_n]) <;> assumption, fun b j hb => by (try simp (disch := omega) only [hset_e, hs_i, hs_a, hn_e, hn_a]) <;> first | assumption | omega, by (try simp only [gnC]) <;> omega, by (try simp only [gnS]) <;> omega⟩ (by (try simp (disch := omega) only [gnK_e, gnK_n, gnL_e, gnL_n]) <;> assumption) (by (try simp (disch := omega) only [gnK_e, gnK_n, gnL_e, gnL_n]) <;> assumption) (by (try simp (disch := omega) only [gnK_e, gnK_n, gnL_e, gnL_n]) <;> assumption) (by (try simp (disch := omega) only [gnK_e, gnK_n, gnL_e, gnL_n]) <;> assumption) (by (try simp (disch := omega) only [hset_e, hs_i, hs_a, hn_e, hn_a]) <;> first | assumption | omega) (by (try simp (disch := omega) only [hset_e, hs_i, hs_a, hn_e, hn_a]) <;> first | assumption | omega) (by (try simp (disch := omega) only [hset_e, hs_i, hs_a, hn_e, hn_a]) <;> first | assumption | omega)
