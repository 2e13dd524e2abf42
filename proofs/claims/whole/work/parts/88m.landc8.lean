/-! the call land, on the class's side -/
def Wd.rd (W : Wd) (A : St) (s k p : Int) : Wd := Wd.mk_ A W.mks W.nmk W.ts W.tm W.tv W.tp 0 s W.top W.bot k p W.hm W.hd W.fs
/-- the land of A with the rules of B, and no sheets -/
def St.lnd (A B : St) : St := St.mk_ A.nq A.nd 0 B.nr A.wk A.ca A.cm A.ch A.gb A.wt A.dx A.dy A.ask A.dr A.fr A.tt A.pa A.cd A.tr A.hf B.rs B.op B.nm B.dp
def landR (W : Wd) (n : Int) : Sum PL (Int × Int) := sLand W.tp n.toNat 701 PL.empty (skp W.tp n.toNat 0)
def Wd.land (W : Wd) (n : Int) : Wd × Int := if 0 ≤ n ∧ n ≤ W.fed then (match landR W n with
  | .inr (k, pl) => (W.rd W.cur 9 k pl, -1)
  | .inl L => (W.rd (L.A.lnd W.cur) 0 0 (-1), L.A.nq)) else (W.st 1, -1)
theorem PL.Ok.lnd {L : PL} {B : St} (P : L.Ok) (O : B.Ok) : (L.A.lnd B).Ok := by
  have A := P.O
  have no : ∀ s, ¬ ins (L.A.lnd B) s := by
    intro s z
    have z0 : 0 ≤ s := z.1
    have z1 : s < 0 := z.2
    omega
  exact ⟨A.nq, A.nd, by show (0 : Int) ≤ 0 ∧ (0 : Int) ≤ 16; decide, O.nr, A.wk, A.ca, A.cm, A.ch, A.gb, A.wt, A.ws, A.dx, A.dy, fun s hs => absurd hs (no s), fun s hs => absurd hs (no s), fun s hs => absurd hs (no s), fun s hs => absurd hs (no s), fun s hs => absurd hs (no s), fun s hs => absurd hs (no s), fun s hs => absurd hs (no s), fun s hs => absurd hs (no s), O.rs0, O.rs, O.rsm, O.op, O.dp⟩
theorem C98 {W : Wd} {n : Int} : Cw 98 [xR 0, xI n] 8 W (W.land n) := by
  intro g h C d Q hQ
  have C0 := C
  obtain ⟨l, r, l2, r2, C1, C2, C3, C4, C5, C6, C7⟩ := C
  unfold Wd.land at hQ
  have O := C7.O
  have S := C7.S
  have f7 := C5.f7
  have hl : l2 = 7 ∨ l2 = 39 := by have := C7.l; omega
  have hl0 : 7 ≤ l2 ∧ l2 ≤ 39 := by omega
  have G : GT g := ⟨C1.k2, C1.k3, C1.l3⟩
  rw [E98, ga C3.k0, C3.p1, ga C1.k2, C5.fed, S146]
  by_cases hn : 0 ≤ n ∧ n ≤ W.fed
  · rw [if_pos hn] at hQ
    obtain ⟨m, hm⟩ : ∃ m : Nat, n = (m : Int) := ⟨n.toNat, by omega⟩
    have hm2 : n.toNat = m := by omega
    have m7 : m ≤ 700 := by omega
    have x2 : hset h 0 15 1 0 2 = 4 := by rw [hset_i _ _ (by decide)]; exact C3.p2
    have x9 : hset h 0 15 1 0 9 = l2 := by rw [hset_i _ _ (by decide)]; exact C3.p9
    rw [bzt hn, o1, List.cons_append, List.nil_append, B98_14, if_pos (by decide), ga ⟨C3.k0, by decide, by decide⟩, ga C3.k0, ga C3.k0, x2, x9, ga C1.k4, hm]
    have k1 : ∀ a, a ≠ 0 → (hset h 0 15 1) a = h a := fun a ha => hset_a _ _ _ ha
    have j1 : ∀ j, j ≠ 15 → (hset h 0 15 1) 0 j = h 0 j := fun j hj => hset_i _ _ hj
    have v15 : hset h 0 15 1 0 15 = 1 := hset_e _ _ _ _
    generalize hset h 0 15 1 = h1 at *
    refine S26 G C1.k4 hl (C7.lk.keep (fun a x0 x1 => k1 a (by omega))) (C7.tl.keep (fun a x0 x1 => k1 a (by omega))) (C7.tm.keep (fun a x0 x1 => k1 a (by omega))) (by rw [k1 4 (by decide)]; exact C1.p4) (by rw [k1 2 (by decide)]; exact C1.p2) (t := W.tp) (fun k hk => by rw [k1 3 (by decide)]; exact C5.tp k (by omega) (by omega)) m7 rfl (fun k pl ez h2 F2 J2 X2 => ?_) (fun L p ez P h2 F2 L2 r2_ T2 => ?_)
    · -- a fault
      have er : landR W n = .inr (k, pl) := by unfold landR; rw [hm2]; exact ez
      rw [er] at hQ
      have kF : ∀ a, a ≠ 0 → a ≠ 2 → a ≠ 4 → (a < l2 ∨ l2 + 12 < a) → h2 a = h a := fun a a0 a2 a4 al => by rw [F2 a a2 a4 al, k1 a a0]
      have y0 : h2 0 = h1 0 := F2 0 (by decide) (by decide) (by omega)
      rw [o1, List.cons_append, List.nil_append, B98_40, if_neg (fun y => y rfl), ga C3.k0, S133 (k := C3.k0), o1, List.cons_append, List.nil_append, B98_49]
      generalize eF : hset h2 0 11 9 = hF
      have gF : ∀ a, a ≠ 0 → hF a = h2 a := fun a ha => by rw [← eF, hset_a _ _ _ ha]
      have jF : ∀ j, j ≠ 11 → j ≠ 15 → hF 0 j = h 0 j := fun j a b => by rw [← eF, hset_i _ _ a, y0, j1 j b]
      have w15 : hF 0 15 = 1 := by rw [← eF, hset_i _ _ (by decide), y0, v15]
      refine hQ hF ⟨l, r, l2, r2, C1.keepg (by rw [gF 1 (by decide), kF 1 (by decide) (by decide) (by decide) (by omega)]) (by rw [gF 2 (by decide), X2.t0, C1.p2]) (by rw [gF 4 (by decide), J2.r0, C1.p4]) (by rw [gF 5 (by decide), kF 5 (by decide) (by decide) (by decide) (by omega)]) (by rw [gF 31 (by decide), kF 31 (by decide) (by decide) (by decide) (by omega)]) (by rw [gF 32 (by decide), kF 32 (by decide) (by decide) (by decide) (by omega)]) (by rw [gF 36 (by decide), kF 36 (by decide) (by decide) (by decide) (by omega)]) (fun t t0 t1 => by rw [gF _ (by omega), kF _ (by omega) (by omega) (by omega) (by omega)]), ⟨C2.k35, by rw [gF 35 (by decide), kF 35 (by decide) (by decide) (by decide) (by omega)]; exact C2.p35⟩, ?_, C4.keep (fun a _ _ => by rw [gF a (by omega), kF a (by omega) (by omega) (by omega) (by omega)]), ?_, C6.keep (fun a _ _ => by rw [gF a (by omega), kF a (by omega) (by omega) (by omega) (by omega)]), ?_⟩ (fun a ha => by rw [gF a (by omega), kF a (by omega) (by omega) (by omega) (by omega)])
      · exact ⟨C3.k0, by rw [jF 0 (by decide) (by decide)]; exact C3.p0, by rw [jF 1 (by decide) (by decide)]; exact C3.p1, by rw [jF 2 (by decide) (by decide)]; exact C3.p2, by rw [jF 3 (by decide) (by decide)]; exact C3.p3, by rw [jF 4 (by decide) (by decide)]; exact C3.p4, by rw [jF 5 (by decide) (by decide)]; exact C3.p5, by rw [jF 6 (by decide) (by decide)]; exact C3.p6, by rw [jF 7 (by decide) (by decide)]; exact C3.p7, by rw [jF 8 (by decide) (by decide)]; exact C3.p8, by rw [jF 9 (by decide) (by decide)]; exact C3.p9, by rw [jF 10 (by decide) (by decide)]; exact C3.p10, by rw [← eF, hset_e]; rfl, by rw [jF 12 (by decide) (by decide)]; exact C3.top, by rw [jF 13 (by decide) (by decide)]; exact C3.bot, by rw [jF 14 (by decide) (by decide)]; exact C3.nmk, C3.nm3, by rw [jF 17 (by decide) (by decide)]; exact C3.hm, by rw [jF 16 (by decide) (by decide)]; exact C3.hd, by rw [jF 18 (by decide) (by decide)]; exact C3.fs⟩
      · exact ⟨by rw [gF 2 (by decide), X2.fd]; rfl, by show (0 : Int) ≤ 0 ∧ (0 : Int) ≤ 700; decide, fun k k0 k1 => absurd k1 (by show ¬ k < 0; omega), Or.inr ⟨w15, by rw [gF 2 (by decide), X2.fk]; rfl, by rw [gF 2 (by decide), X2.fp]; rfl⟩, fun k k0 k1 => absurd k1 (by show ¬ k < 0; omega)⟩
      · have hlr := C7.l
        have hrr := C7.r
        refine ⟨C7.l, C7.r, C7.S.keep (by rw [gF 6 (by decide), kF 6 (by decide) (by decide) (by decide) (by omega)]) (fun a x0 x1 => by rw [gF a (by omega), kF a (by omega) (by omega) (by omega) (by omega)]) (fun a x0 x1 => by rw [gF a (by omega), kF a (by omega) (by omega) (by omega) (by omega)]) (fun a x0 x1 => by rw [gF a (by omega), kF a (by omega) (by omega) (by omega) (by omega)]), C7.O, J2.lk.keep (fun a x0 x1 => gF a (by omega)), J2.t0.keep (fun a x0 x1 => gF a (by omega)), J2.t1.keep (fun a x0 x1 => gF a (by omega)), C7.rk.keep (fun a x0 x1 => by rw [gF a (by omega), kF a (by omega) (by omega) (by omega) (by omega)]), by rw [gF _ (by omega), kF _ (by omega) (by omega) (by omega) (by omega)]; exact C7.rz⟩
    · -- a land
      have er : landR W n = .inl L := by unfold landR; rw [hm2]; exact ez
      rw [er] at hQ
      have hlr := C7.l
      have hrr := C7.r
      have kF : ∀ a, a ≠ 0 → a ≠ 2 → a ≠ 4 → (a < l2 ∨ l2 + 12 < a) → h2 a = h a := fun a a0 a2 a4 al => by rw [F2 a a2 a4 al, k1 a a0]
      have y0 : h2 0 = h1 0 := F2 0 (by decide) (by decide) (by omega)
      have y6 : h2 6 = h 6 := kF 6 (by decide) (by decide) (by decide) (by omega)
      have z4 : h2 0 4 = 6 := by rw [y0, j1 4 (by decide)]; exact C3.p4
      have z9 : h2 0 9 = l2 := by rw [y0, j1 9 (by decide)]; exact C3.p9
      have z60 : h2 6 0 = l := by rw [y6]; exact S.pl
      have u4 : ∀ a b, hset (hset h2 6 0 a) 0 9 b 0 4 = 6 := fun a b => by rw [hset_i _ _ (by decide), hset_a _ _ _ (by decide), z4]
      have u5 : ∀ a b c, hset (hset (hset h2 6 0 a) 0 9 b) 6 2 c 0 4 = 6 := fun a b c => by rw [hset_a _ _ _ (by decide), u4]
      have u6 : ∀ a b c, hset (hset (hset h2 6 0 a) 0 9 b) 6 2 c 6 0 = a := fun a b c => by rw [hset_i _ _ (by decide), hset_a _ _ _ (by decide), hset_e]
      rw [o1, List.cons_append, List.nil_append, B98_40, if_pos (by decide), ga C3.k0, z4, ga S.k0, z60, ga (by omega), ga C3.k0, ga C3.k0, z9, ga ⟨S.k0, by omega⟩, ga ⟨C3.k0, by omega⟩, ga C3.k0, u4, ga S.k0, ga C3.k0, u5, ga S.k0, u6, B98_90, ga L2.k0, ga C3.k0, S135 (k := C3.k0), o1, List.cons_append, List.nil_append, B98_96]
      generalize eG : hset (hset (hset h2 6 0 l2) 0 9 l) 6 2 0 = hG
      have gG : ∀ a, a ≠ 0 → a ≠ 6 → hG a = h2 a := fun a a0 a6 => by rw [← eG, hset_a _ _ _ a6, hset_a _ _ _ a0, hset_a _ _ _ a6]
      have g0 : ∀ j, j ≠ 9 → hG 0 j = h2 0 j := fun j hj => by rw [← eG, hset_a _ _ _ (by decide), hset_i _ _ hj, hset_a _ _ _ (by decide)]
      have g9 : hG 0 9 = l := by rw [← eG, hset_a _ _ _ (by decide), hset_e]
      have g6 : ∀ j, j ≠ 0 → j ≠ 2 → hG 6 j = h 6 j := fun j j0 j2 => by rw [← eG, hset_i _ _ j2, hset_a _ _ _ (by decide), hset_i _ _ j0, y6]
      have g60 : hG 6 0 = l2 := by rw [← eG, hset_i _ _ (by decide), hset_a _ _ _ (by decide), hset_e]
      have g62 : hG 6 2 = 0 := by rw [← eG, hset_e]
      clear eG u4 u5 u6
      have enq : hG l2 0 = L.A.nq := by rw [gG l2 (by omega) (by omega)]; exact L2.nq
      rw [enq]
      generalize eF : hset hG 0 11 0 = hF
      have gF : ∀ a, a ≠ 0 → a ≠ 6 → hF a = h2 a := fun a ha a6 => by rw [← eF, hset_a _ _ _ ha, gG a ha a6]
      have f6 : hF 6 = hG 6 := by rw [← eF, hset_a _ _ _ (by decide)]
      have jF : ∀ j, j ≠ 9 → j ≠ 11 → j ≠ 15 → hF 0 j = h 0 j := fun j c a b => by rw [← eF, hset_i _ _ a, g0 j c, y0, j1 j b]
      have w15 : hF 0 15 = 1 := by rw [← eF, hset_i _ _ (by decide), g0 15 (by decide), y0, v15]
      have w9 : hF 0 9 = l := by rw [← eF, hset_i _ _ (by decide), g9]
      have w11 : hF 0 11 = 0 := by rw [← eF, hset_e]
      refine hQ hF ⟨l2, r, l, r2, C1.keepg (by rw [gF 1 (by decide) (by decide), kF 1 (by decide) (by decide) (by decide) (by omega)]) (by rw [gF 2 (by decide) (by decide), T2.t0, C1.p2]) (by rw [gF 4 (by decide) (by decide), r2_, C1.p4]) (by rw [gF 5 (by decide) (by decide), kF 5 (by decide) (by decide) (by decide) (by omega)]) (by rw [gF 31 (by decide) (by decide), kF 31 (by decide) (by decide) (by decide) (by omega)]) (by rw [gF 32 (by decide) (by decide), kF 32 (by decide) (by decide) (by decide) (by omega)]) (by rw [gF 36 (by decide) (by decide), kF 36 (by decide) (by decide) (by decide) (by omega)]) (fun t t0 t1 => by rw [gF _ (by omega) (by omega), kF _ (by omega) (by omega) (by omega) (by omega)]), ⟨C2.k35, by rw [gF 35 (by decide) (by decide), kF 35 (by decide) (by decide) (by decide) (by omega)]; exact C2.p35⟩, ?_, C4.keep (fun a _ _ => by rw [gF a (by omega) (by omega), kF a (by omega) (by omega) (by omega) (by omega)]), ?_, C6.keep (fun a _ _ => by rw [gF a (by omega) (by omega), kF a (by omega) (by omega) (by omega) (by omega)]), ?_⟩ (fun a ha => by rw [gF a (by omega) (by omega), kF a (by omega) (by omega) (by omega) (by omega)])
      · exact ⟨C3.k0, by rw [jF 0 (by decide) (by decide) (by decide)]; exact C3.p0, by rw [jF 1 (by decide) (by decide) (by decide)]; exact C3.p1, by rw [jF 2 (by decide) (by decide) (by decide)]; exact C3.p2, by rw [jF 3 (by decide) (by decide) (by decide)]; exact C3.p3, by rw [jF 4 (by decide) (by decide) (by decide)]; exact C3.p4, by rw [jF 5 (by decide) (by decide) (by decide)]; exact C3.p5, by rw [jF 6 (by decide) (by decide) (by decide)]; exact C3.p6, by rw [jF 7 (by decide) (by decide) (by decide)]; exact C3.p7, by rw [jF 8 (by decide) (by decide) (by decide)]; exact C3.p8, w9, by rw [jF 10 (by decide) (by decide) (by decide)]; exact C3.p10, by rw [w11]; rfl, by rw [jF 12 (by decide) (by decide) (by decide)]; exact C3.top, by rw [jF 13 (by decide) (by decide) (by decide)]; exact C3.bot, by rw [jF 14 (by decide) (by decide) (by decide)]; exact C3.nmk, C3.nm3, by rw [jF 17 (by decide) (by decide) (by decide)]; exact C3.hm, by rw [jF 16 (by decide) (by decide) (by decide)]; exact C3.hd, by rw [jF 18 (by decide) (by decide) (by decide)]; exact C3.fs⟩
      · exact ⟨by rw [gF 2 (by decide) (by decide), T2.fd]; rfl, by show (0 : Int) ≤ 0 ∧ (0 : Int) ≤ 700; decide, fun k k0 k1 => absurd k1 (by show ¬ k < 0; omega), Or.inr ⟨w15, by rw [gF 2 (by decide) (by decide), T2.fk]; rfl, by rw [gF 2 (by decide) (by decide), T2.fp]; rfl⟩, fun k k0 k1 => absurd k1 (by show ¬ k < 0; omega)⟩
      · have no : ∀ s, ¬ ins (L.A.lnd W.cur) s := by
          intro s z
          have z0 : 0 ≤ s := z.1
          have z1 : s < 0 := z.2
          omega
        have LF : LR g hF l2 L.A := L2.keep (fun a x0 x1 => gF a (by omega) (by omega))
        have RF : RR g hF r W.cur := S.R.keep (fun a x0 x1 => by rw [gF a (by omega) (by omega), kF a (by omega) (by omega) (by omega) (by omega)])
        have SF : SK g hF 6 := by
          have Z := S.to_
          unfold SK at Z ⊢
          rw [f6, g6 3 (by decide) (by decide), g6 4 (by decide) (by decide), g6 5 (by decide) (by decide), g6 6 (by decide) (by decide), g6 7 (by decide) (by decide), g6 8 (by decide) (by decide), g6 9 (by decide) (by decide), g6 10 (by decide) (by decide)]
          exact Z
        have LO : LR g hF l W.cur := S.L.keep (fun a x0 x1 => by rw [gF a (by omega) (by omega), kF a (by omega) (by omega) (by omega) (by omega)])
        exact ⟨by omega, hrr, ⟨SF, by rw [f6]; exact g60, by rw [f6, g6 1 (by decide) (by decide)]; exact S.pr, LF, RF, by rw [f6]; exact g62, fun i hi => absurd hi (no i), fun i hi => absurd hi (no i), fun i hi => absurd hi (no i), fun i hi => absurd hi (no i), fun i hi => absurd hi (no i), fun i hi => absurd hi (no i), fun i hi => absurd hi (no i), fun i hi => absurd hi (no i)⟩, P.lnd O, LO.to_, LO.tl.to_, LO.tm.to_, C7.rk.keep (fun a x0 x1 => by rw [gF a (by omega) (by omega), kF a (by omega) (by omega) (by omega) (by omega)]), by rw [gF _ (by omega) (by omega), kF _ (by omega) (by omega) (by omega) (by omega)]; exact C7.rz⟩
  · rw [if_neg hn] at hQ
    rw [bzf hn, o1, List.cons_append, List.nil_append, B98_14, if_neg (fun y => y rfl), ga C3.k0]
    simp only [S133 (k := C3.k0), S134 (k := C3.k0), S135 (k := C3.k0), S136 (k := C3.k0), o1, o0, List.cons_append, List.nil_append, B98_22]
    exact cst C0 hQ
