/-! RULES' text, on the class's side: the reader 5 and rules r -/
theorem GR.step {t : Int → Int} {n : Nat} {F : PR → Nat → RRz} (hF : GF n F) {C0 : PR} (c00 : 0 ≤ C0.dpc) {p0 : Nat} {C : PR} {p : Nat} {C3 : PR} {p3 : Nat} {o : Int} (ho : o = 1 ∨ o = 2) (y : 1 ≤ kyr (wdv t n p)) (ef : F C (nxt t n p) = .inl (C3, p3)) (g0 : GR n C0 p0 C p) : GR n C0 p0 (C3.emit o 0) p3 := by
  have w := wlen (kyr_w y)
  have q := nxt_r t (n := n) (p := p) g0.le
  have g := hF _ _ _ _ ef q.2.1 g0.ok
  have c0 := g0.d
  have gd := g.d
  have d1 : dlt o = -1 := by rcases ho with rfl | rfl <;> decide
  refine ⟨g.ok.emit (by omega) (by decide) (fun z => by omega) (fun z => by omega) (fun _ => by omega), ?_, ?_, g.le, ?_, g.nr.trans g0.nr⟩
  · rw [PR.emit_dpc, d1]; omega
  · have := g0.lt; have := g.lt; omega
  · have a := g0.ln
    have b := g.ln
    show 2 * (C3.ln + 1) + _ ≤ _
    omega
def RI (g : KG) (h : KH) (r : Int) (C : PR) : Prop := (RK g h r) ∧ (h r 0 = C.A.nr) ∧ (h r 1 = C.ln) ∧ (∀ i, 0 ≤ i → i ≤ C.A.nr → h (r + 1) i = C.A.rs i) ∧ (∀ k, 0 ≤ k → k < C.ln → h (r + 2) k = C.A.nm k * 16 + stc (C.A.op k)) ∧ (h 5 0 = 2) ∧ (h 5 1 = C.ts) ∧ (h (r + 1) 0 = 0)
theorem RI.rk {g : KG} {h : KH} {r : Int} {C : PR} (z_ : RI g h r C) : RK g h r := z_.1
theorem RI.nr {g : KG} {h : KH} {r : Int} {C : PR} (z_ : RI g h r C) : h r 0 = C.A.nr := z_.2.1
theorem RI.ln {g : KG} {h : KH} {r : Int} {C : PR} (z_ : RI g h r C) : h r 1 = C.ln := z_.2.2.1
theorem RI.rs {g : KG} {h : KH} {r : Int} {C : PR} (z_ : RI g h r C) : ∀ i, 0 ≤ i → i ≤ C.A.nr → h (r + 1) i = C.A.rs i := z_.2.2.2.1
theorem RI.cd {g : KG} {h : KH} {r : Int} {C : PR} (z_ : RI g h r C) : ∀ k, 0 ≤ k → k < C.ln → h (r + 2) k = C.A.nm k * 16 + stc (C.A.op k) := z_.2.2.2.2.1
theorem RI.r0 {g : KG} {h : KH} {r : Int} {C : PR} (z_ : RI g h r C) : h 5 0 = 2 := z_.2.2.2.2.2.1
theorem RI.ts {g : KG} {h : KH} {r : Int} {C : PR} (z_ : RI g h r C) : h 5 1 = C.ts := z_.2.2.2.2.2.2.1
theorem RI.rz {g : KG} {h : KH} {r : Int} {C : PR} (z_ : RI g h r C) : h (r + 1) 0 = 0 := z_.2.2.2.2.2.2.2
def RJ (g : KG) (h : KH) (r : Int) : Prop := (RK g h r) ∧ (0 ≤ h r 0 ∧ h r 0 ≤ 4) ∧ (0 ≤ h r 1 ∧ h r 1 ≤ 300) ∧ (h 5 0 = 2) ∧ (h (r + 1) 0 = 0)
theorem RJ.rk {g : KG} {h : KH} {r : Int} (z_ : RJ g h r) : RK g h r := z_.1
theorem RJ.nr {g : KG} {h : KH} {r : Int} (z_ : RJ g h r) : 0 ≤ h r 0 ∧ h r 0 ≤ 4 := z_.2.1
theorem RJ.ln {g : KG} {h : KH} {r : Int} (z_ : RJ g h r) : 0 ≤ h r 1 ∧ h r 1 ≤ 300 := z_.2.2.1
theorem RJ.r0 {g : KG} {h : KH} {r : Int} (z_ : RJ g h r) : h 5 0 = 2 := z_.2.2.2.1
theorem RJ.rz {g : KG} {h : KH} {r : Int} (z_ : RJ g h r) : h (r + 1) 0 = 0 := z_.2.2.2.2
def FR (r : Int) (h h2 : KH) : Prop := ∀ a, a ≠ 2 → a ≠ 5 → (a < r ∨ r + 2 < a) → h2 a = h a
theorem FR.rfl_ (r : Int) (h : KH) : FR r h h := fun _ _ _ _ => rfl
theorem FR.tok {r : Int} {h h1 h2 : KH} (F : FR r h h1) (f : ∀ a, a ≠ 2 → h2 a = h1 a) : FR r h h2 := fun a a2 a4 al => by rw [f a a2, F a a2 a4 al]
theorem FR.tr {r : Int} {h h1 h2 : KH} (F : FR r h h1) (f : FR r h1 h2) : FR r h h2 := fun a a2 a4 al => by rw [f a a2 a4 al, F a a2 a4 al]
theorem RI.keep {g : KG} {h h2 : KH} {r : Int} {C : PR} (I : RI g h r C) (e : ∀ a, (a = 5 ∨ (r ≤ a ∧ a ≤ r + 2)) → h2 a = h a) : RI g h2 r C := by
  have e0 := e r (by omega)
  have e1 := e (r + 1) (by omega)
  have e2 := e (r + 2) (by omega)
  have e5 := e 5 (by omega)
  exact ⟨I.rk.keep (fun a x y => e a (by omega)), by rw [e0]; exact I.nr, by rw [e0]; exact I.ln, by rw [e1]; exact I.rs, by rw [e2]; exact I.cd, by rw [e5]; exact I.r0, by rw [e5]; exact I.ts, by rw [e1]; exact I.rz⟩
theorem RJ.keep {g : KG} {h h2 : KH} {r : Int} (I : RJ g h r) (e : ∀ a, (a = 5 ∨ (r ≤ a ∧ a ≤ r + 2)) → h2 a = h a) : RJ g h2 r := by
  have e0 := e r (by omega)
  have e1 := e (r + 1) (by omega)
  have e5 := e 5 (by omega)
  exact ⟨I.rk.keep (fun a x y => e a (by omega)), by rw [e0]; exact I.nr, by rw [e0]; exact I.ln, by rw [e5]; exact I.r0, by rw [e1]; exact I.rz⟩
theorem RI.tok {g : KG} {h h2 : KH} {r : Int} {C : PR} (hr : r = 20 ∨ r = 52) (I : RI g h r C) (f : ∀ a, a ≠ 2 → h2 a = h a) : RI g h2 r C := I.keep (fun a ha => f a (by omega))
theorem RJ.tok {g : KG} {h h2 : KH} {r : Int} (hr : r = 20 ∨ r = 52) (I : RJ g h r) (f : ∀ a, a ≠ 2 → h2 a = h a) : RJ g h2 r := I.keep (fun a ha => f a (by omega))
theorem RI.j {g : KG} {h : KH} {r : Int} {C : PR} (I : RI g h r C) (O : C.Ok) (l : C.ln ≤ 300) : RJ g h r := ⟨I.rk, by rw [I.nr]; exact O.nr, by rw [I.ln]; exact ⟨O.l0, l⟩, I.r0, I.rz⟩
theorem or_4 {v s : Int} (hv : 0 ≤ v ∧ v ≤ 9999) (hs : 0 ≤ s ∧ s < 16) : or32 (shl32 v 4) s = v * 16 + s := by
  obtain ⟨a, ha⟩ : ∃ a : Nat, v = (a : Int) := ⟨v.toNat, by omega⟩
  obtain ⟨b, hb⟩ : ∃ b : Nat, s = (b : Int) := ⟨s.toNat, by omega⟩
  subst ha hb
  have e : shl32 (a : Int) 4 = ((a * 16 : Nat) : Int) := by
    unfold shl32
    rw [show ((4 : Int).toNat) = 4 from rfl, show (2 : Int) ^ 4 = 16 by decide, w32_id (by omega) (by omega)]
    omega
  have e2 : a * 16 ||| b = a * 16 + b := by
    have := Nat.shiftLeft_add_eq_or_of_lt (i := 4) (b := b) (by omega) a
    rw [Nat.shiftLeft_eq] at this
    exact this.symm
  rw [e, or_n (b : Int) (by omega) (by omega) rfl, e2]
  omega
theorem S38 {g : KG} {h : KH} {r : Int} (hr : r = 20 ∨ r = 52) {C : PR} (I : RI g h r C) (O : C.Ok) {o v : Int} (ho : 1 ≤ o ∧ o ≤ 10) (hv : 0 ≤ v ∧ v ≤ 9999) (l : C.ln < 300) {d : Nat} {Q : Option KV → KG → KH → Prop} (hQ : ∀ h2 : KH, (∀ a, a ≠ r → a ≠ r + 2 → h2 a = h a) → RI g h2 r (C.emit o v) → Q none g h2) : Cl (d + 1) 38 [xR r, xI (stc o), xI v] g h Q := by
  have k := I.rk
  have l0 := O.l0
  have sr := stc_r ho
  have y : ∀ i u, hset h (r + 2) i u r = h r := fun i u => hset_a _ _ _ (by omega)
  rw [E38, ga k.k0, I.ln, if_neg (by omega), ga k.k0, ga k.k0, ga (by decide), k.p3, or_4 hv ⟨by omega, by omega⟩, ga ⟨k.k2, by omega, by omega, by rw [k.l2]; omega⟩, ga k.k0, ga k.k0, y, I.ln, w32_id (by omega) (by omega), B38_34]
  have fa : ∀ a, a ≠ r → a ≠ r + 2 → hset (hset h (r + 2) C.ln (v * 16 + stc o)) r 1 (C.ln + 1) a = h a := fun a a0 a2 => by rw [hset_a _ _ _ a0, hset_a _ _ _ a2]
  have fr : ∀ j, j ≠ 1 → hset (hset h (r + 2) C.ln (v * 16 + stc o)) r 1 (C.ln + 1) r j = h r j := fun j hj => by rw [hset_i _ _ hj, y]
  have f1 : hset (hset h (r + 2) C.ln (v * 16 + stc o)) r 1 (C.ln + 1) r 1 = C.ln + 1 := hset_e _ _ _ _
  have f2 : hset (hset h (r + 2) C.ln (v * 16 + stc o)) r 1 (C.ln + 1) (r + 2) C.ln = v * 16 + stc o := by rw [hset_a _ _ _ (by omega), hset_e]
  have f3 : ∀ j, j ≠ C.ln → hset (hset h (r + 2) C.ln (v * 16 + stc o)) r 1 (C.ln + 1) (r + 2) j = h (r + 2) j := fun j hj => by rw [hset_a _ _ _ (by omega), hset_i _ _ hj]
  generalize hset (hset h (r + 2) C.ln (v * 16 + stc o)) r 1 (C.ln + 1) = h2 at *
  refine hQ h2 fa ⟨?_, by rw [fr 0 (by decide)]; exact I.nr, f1, by rw [fa (r + 1) (by omega) (by omega)]; exact I.rs, fun j j0 j1 => ?_, by rw [fa 5 (by omega) (by omega)]; exact I.r0, by rw [fa 5 (by omega) (by omega)]; exact I.ts, by rw [fa (r + 1) (by omega) (by omega)]; exact I.rz⟩
  · have K := k
    unfold RK at K ⊢
    rw [fr 2 (by decide), fr 3 (by decide)]
    exact K
  · have j1 : j < C.ln + 1 := j1
    show h2 (r + 2) j = (if j = C.ln then v else C.A.nm j) * 16 + stc (if j = C.ln then o else C.A.op j)
    by_cases e : j = C.ln
    · rw [if_pos e, if_pos e, e, f2]
    · rw [if_neg e, if_neg e, f3 j e]; exact I.cd j j0 (by omega)
theorem J38 {g : KG} {h : KH} {r : Int} (hr : r = 20 ∨ r = 52) (I : RJ g h r) {s v : Int} {d : Nat} {Q : Option KV → KG → KH → Prop} (hQ : ∀ h2 : KH, (∀ a, a ≠ r → a ≠ r + 2 → h2 a = h a) → RJ g h2 r → Q none g h2) : Cl (d + 1) 38 [xR r, xI s, xI v] g h Q := by
  have k := I.rk
  have l := I.ln
  rw [E38, ga k.k0]
  by_cases c : 300 ≤ h r 1
  · rw [if_pos c, B38_34]
    exact hQ h (fun _ _ _ => rfl) I
  · have y : ∀ i u, hset h (r + 2) i u r = h r := fun i u => hset_a _ _ _ (by omega)
    rw [if_neg c, ga k.k0, ga k.k0, ga (by decide), k.p3, ga ⟨k.k2, by omega, by omega, by rw [k.l2]; omega⟩, ga k.k0, ga k.k0, y, w32_id (by omega) (by omega), B38_34]
    refine hQ _ (fun a a0 a2 => by rw [hset_a _ _ _ a0, hset_a _ _ _ a2]) ⟨?_, by rw [hset_i _ _ (by decide), y]; exact I.nr, by rw [hset_e]; omega, by rw [hset_a _ _ _ (by omega), hset_a _ _ _ (by omega)]; exact I.r0, by rw [hset_a _ _ _ (by omega), hset_a _ _ _ (by omega)]; exact I.rz⟩
    have K := k
    unfold RK at K ⊢
    rw [hset_i (j := 2) (i := 1) _ _ (by decide), hset_i (j := 3) (i := 1) _ _ (by decide), y]
    exact K
theorem S39 {g : KG} {h : KH} {r : Int} (hr : r = 20 ∨ r = 52) {C : PR} (I : RI g h r C) (O : C.Ok) (n4 : C.A.nr < 4) {d : Nat} {Q : Option KV → KG → KH → Prop} (hQ : ∀ h2 : KH, (∀ a, a ≠ r → a ≠ r + 1 → h2 a = h a) → RI g h2 r C.end_ → Q none g h2) : Cl (d + 1) 39 [xR r] g h Q := by
  have k := I.rk
  have nr := O.nr
  have i0 : ∀ j u, j ≠ 0 → hset h r 0 u r j = h r j := fun j u hj => hset_i _ _ hj
  rw [E39, ga k.k0, I.nr, if_neg (by omega), ga k.k0, ga k.k0, ga k.k0, ga k.k0, ga k.k0, w32_id (by omega) (by omega), i0 2 _ (by decide), i0 1 _ (by decide), hset_e, k.p2, I.ln, ga ⟨k.k1, by omega, by omega, by rw [k.l1]; omega⟩, B39_31]
  have fa : ∀ a, a ≠ r → a ≠ r + 1 → hset (hset h r 0 (C.A.nr + 1)) (r + 1) (C.A.nr + 1) C.ln a = h a := fun a a0 a2 => by rw [hset_a _ _ _ a2, hset_a _ _ _ a0]
  have fr : ∀ j, j ≠ 0 → hset (hset h r 0 (C.A.nr + 1)) (r + 1) (C.A.nr + 1) C.ln r j = h r j := fun j hj => by rw [hset_a _ _ _ (by omega), hset_i _ _ hj]
  have f1 : hset (hset h r 0 (C.A.nr + 1)) (r + 1) (C.A.nr + 1) C.ln r 0 = C.A.nr + 1 := by rw [hset_a _ _ _ (by omega), hset_e]
  have f2 : hset (hset h r 0 (C.A.nr + 1)) (r + 1) (C.A.nr + 1) C.ln (r + 1) (C.A.nr + 1) = C.ln := hset_e _ _ _ _
  have f3 : ∀ j, j ≠ C.A.nr + 1 → hset (hset h r 0 (C.A.nr + 1)) (r + 1) (C.A.nr + 1) C.ln (r + 1) j = h (r + 1) j := fun j hj => by rw [hset_i _ _ hj, hset_a _ _ _ (by omega)]
  generalize hset (hset h r 0 (C.A.nr + 1)) (r + 1) (C.A.nr + 1) C.ln = h2 at *
  refine hQ h2 fa ⟨?_, f1, by rw [fr 1 (by decide)]; exact I.ln, fun j j0 j1 => ?_, by rw [fa (r + 2) (by omega) (by omega)]; exact I.cd, by rw [fa 5 (by omega) (by omega)]; exact I.r0, by rw [fa 5 (by omega) (by omega)]; exact I.ts, by rw [f3 0 (by omega)]; exact I.rz⟩
  · have K := k
    unfold RK at K ⊢
    rw [fr 2 (by decide), fr 3 (by decide)]
    exact K
  · have j1 : j ≤ C.A.nr + 1 := j1
    show h2 (r + 1) j = if j = C.A.nr + 1 then C.ln else C.A.rs j
    by_cases e : j = C.A.nr + 1
    · rw [if_pos e, e, f2]
    · rw [if_neg e, f3 j e]; exact I.rs j j0 (by omega)
theorem J39 {g : KG} {h : KH} {r : Int} (hr : r = 20 ∨ r = 52) (I : RJ g h r) {d : Nat} {Q : Option KV → KG → KH → Prop} (hQ : ∀ h2 : KH, (∀ a, a ≠ r → a ≠ r + 1 → h2 a = h a) → RJ g h2 r → Q none g h2) : Cl (d + 1) 39 [xR r] g h Q := by
  have k := I.rk
  have nr := I.nr
  rw [E39, ga k.k0]
  by_cases c : 4 ≤ h r 0
  · rw [if_pos c, B39_31]
    exact hQ h (fun _ _ _ => rfl) I
  · have i0 : ∀ j u, j ≠ 0 → hset h r 0 u r j = h r j := fun j u hj => hset_i _ _ hj
    rw [if_neg c, ga k.k0, ga k.k0, ga k.k0, ga k.k0, ga k.k0, w32_id (by omega) (by omega), i0 2 _ (by decide), i0 1 _ (by decide), hset_e, k.p2, ga ⟨k.k1, by omega, by omega, by rw [k.l1]; omega⟩, B39_31]
    refine hQ _ (fun a a0 a2 => by rw [hset_a _ _ _ a2, hset_a _ _ _ a0]) ⟨?_, by rw [hset_a _ _ _ (by omega), hset_e]; omega, by rw [hset_a _ _ _ (by omega), i0 1 _ (by decide)]; exact I.ln, by rw [hset_a _ _ _ (by omega), hset_a _ _ _ (by omega)]; exact I.r0, by rw [hset_i _ _ (by omega), hset_a _ _ _ (by omega)]; exact I.rz⟩
    have K := k
    unfold RK at K ⊢
    rw [hset_a _ _ _ (by omega), i0 2 _ (by decide), i0 3 _ (by decide)]
    exact K
theorem S47 {w : Int} {d : Nat} {g : KG} {h : KH} {Q : Option KV → KG → KH → Prop} (hQ : Q (some (xI (if kyr w < 3 then 0 else stc (kyr w)))) g h) : Cl (d + 1) 47 [xL w] g h Q := by
  rw [E47]
  simp only [c64eq, ne_eq]
  by_cases h1 : w = 7237492
  · rw [h1, show (if kyr 7237492 < 3 then 0 else stc (kyr 7237492)) = 8 by decide] at hQ
    rw [if_neg (fun z => z h1)]; exact hQ
  rw [if_pos h1]
  by_cases h2 : w = 1935764837
  · rw [h2, show (if kyr 1935764837 < 3 then 0 else stc (kyr 1935764837)) = 1 by decide] at hQ
    rw [if_neg (fun z => z h2)]; exact hQ
  rw [if_pos h2]
  by_cases h3 : w = 495673373300
  · rw [h3, show (if kyr 495673373300 < 3 then 0 else stc (kyr 495673373300)) = 2 by decide] at hQ
    rw [if_neg (fun z => z h3)]; exact hQ
  rw [if_pos h3]
  by_cases h4 : w = 1818326117
  · rw [h4, show (if kyr 1818326117 < 3 then 0 else stc (kyr 1818326117)) = 3 by decide] at hQ
    rw [if_neg (fun z => z h4)]; exact hQ
  rw [if_pos h4]
  by_cases h5 : w = 1918988901
  · rw [h5, show (if kyr 1918988901 < 3 then 0 else stc (kyr 1918988901)) = 4 by decide] at hQ
    rw [if_neg (fun z => z h5)]; exact hQ
  rw [if_pos h5]
  by_cases h6 : w = 1835099237
  · rw [h6, show (if kyr 1835099237 < 3 then 0 else stc (kyr 1835099237)) = 5 by decide] at hQ
    rw [if_neg (fun z => z h6)]; exact hQ
  rw [if_pos h6]
  by_cases h7 : w = 1667330660
  · rw [h7, show (if kyr 1667330660 < 3 then 0 else stc (kyr 1667330660)) = 6 by decide] at hQ
    rw [if_neg (fun z => z h7)]; exact hQ
  rw [if_pos h7]
  by_cases h8 : w = 418447455091
  · rw [h8, show (if kyr 418447455091 < 3 then 0 else stc (kyr 418447455091)) = 7 by decide] at hQ
    rw [if_neg (fun z => z h8), B47_86]; exact hQ
  rw [if_pos h8, B47_86]
  have e : kyr w < 3 := by
    unfold kyr
    repeat' split
    all_goals omega
  rw [if_pos e] at hQ
  exact hQ
theorem S46 {s : Int} {d : Nat} {g : KG} {h : KH} {Q : Option KV → KG → KH → Prop} (hQ : Q (some (xI (if s = 5 then 16 else if s = 6 then 2 else 9999))) g h) : Cl (d + 1) 46 [xI s] g h Q := by
  rw [E46, Sw_cons]
  by_cases h5 : s = 5
  · rw [if_pos h5] at hQ
    rw [if_pos h5, B46_28]; exact hQ
  rw [if_neg h5] at hQ
  rw [if_neg h5, Sw_cons]
  by_cases h6 : s = 6
  · rw [if_pos h6] at hQ
    rw [if_pos h6, B46_31]; exact hQ
  rw [if_neg h6] at hQ
  rw [if_neg h6, Sw_nil, B46_33]
  exact hQ
theorem hi_stc {o : Int} (ho : 4 ≤ o ∧ o ≤ 10) : (if stc o = 5 then (16 : Int) else if stc o = 6 then 2 else 9999) = hiR o := by
  have e : o = 4 ∨ o = 5 ∨ o = 6 ∨ o = 7 ∨ o = 8 ∨ o = 9 ∨ o = 10 := by omega
  rcases e with rfl | rfl | rfl | rfl | rfl | rfl | rfl <;> decide
/-- how a piece of the reader ends -/
def RPo (g : KG) (r : Int) (t : Int → Int) (n : Nat) (h : KH) (z : RRz) (Q : Option KV → KG → KH → Prop) : Prop :=
  (∀ (k pl : Int) (h2 : KH), z = .inr (k, pl) → FR r h h2 → RJ g h2 r → KF h2 n k pl → Q none g h2) ∧
  (∀ (C2 : PR) (p2 : Nat) (h2 : KH), z = .inl (C2, p2) → FR r h h2 → RI g h2 r C2 → KP h2 t n p2 → Q none g h2)
/-- what a piece of the reader does at such a level -/
def HP (g : KG) (k : Nat) (r : Int) (t : Int → Int) (n : Nat) (F : PR → Nat → RRz) (w : Int) (D0 : Nat) : Prop :=
  (∀ D, D0 ≤ D → ∀ (h : KH) (C : PR) (p : Nat) (Q : Option KV → KG → KH → Prop), RI g h r C → KP h t n p → C.Ok → 2 * C.ln ≤ p → RPo g r t n h (F C p) Q → Cl D k [xR 5, xR r, xI w] g h Q) ∧
  (∀ D, D0 ≤ D → ∀ (h : KH) (kk pl : Int) (Q : Option KV → KG → KH → Prop), RJ g h r → KF h n kk pl → (∀ h2 : KH, FR r h h2 → RJ g h2 r → KF h2 n kk pl → Q none g h2) → Cl D k [xR 5, xR r, xI w] g h Q)
theorem S44 {g : KG} (G : GT g) (k5 : gK g 5 = 6) {r : Int} (hr : r = 20 ∨ r = 52) {t : Int → Int} {n : Nat} (n3 : n ≤ 300) {F : PR → Nat → RRz} (hF : GF n F) {w : Int} {D0 : Nat} (d3 : 3 ≤ D0) (H : HP g 45 r t n F w D0) : HP g 44 r t n (sTerm t n F) w (D0 + 1) := by
  have exF : ∀ (D : Nat) (h h1 : KH) (kk pl a3 : Int) (Q : Option KV → KG → KH → Prop), FR r h h1 → RJ g h1 r → KF h1 n kk pl → (∀ h2 : KH, FR r h h2 → RJ g h2 r → KF h2 n kk pl → Q none g h2) → Rn (D + 3) 44 8 [xR 5, xR r, xI w, xI a3] [] g h1 Q := by
    intro D h h1 kk pl a3 Q F1 J T q
    rw [B44_8]
    split
    · rw [B44_65]; exact q h1 F1 J T
    · rw [ga k5, J.r0, ga G.k2]
      refine F74 G T ?_
      rw [o1, List.cons_append, List.nil_append, B44_22, if_pos rfl, B44_65]
      exact q h1 F1 J T
  refine ⟨fun D hD h C p Q I T O l q => ?_, fun D hD h kk pl Q J T q => ?_⟩
  · obtain ⟨D, rfl⟩ : ∃ d, D = d + 4 := ⟨D - 4, by omega⟩
    rw [E44, ga k5]
    unfold sTerm at q
    refine H.1 (D + 3) (by omega) h C p _ I T O l ⟨fun k pl h2 e F2 J X => ?_, fun C1 p1 h1 e F1 I1 T1 => ?_⟩
    · rw [e] at q
      rw [o0, List.nil_append, B44_6]
      exact exF D h h2 k pl 0 Q F2 J X (fun h3 F3 J3 X3 => q.1 k pl h3 rfl F3 J3 X3)
    · rw [e] at q
      have g1 := hF _ _ _ _ e T.td.pn O
      have lp : ∀ (m : Nat) (a3 : Nat) (h2 : KH) (C2 : PR) (p2 : Nat), a3 + m = 300 → a3 < p2 → FR r h h2 → RI g h2 r C2 → KP h2 t n p2 → GR n C p C2 p2 → RPo g r t n h (sTermR t n F (m + 1) C2 p2) Q → Rn (D + 3) 44 8 [xR 5, xR r, xI w, xI (a3 : Int)] [] g h2 Q := by
        intro m
        induction m with
        | zero =>
          intro a3 h2 C2 p2 ha hp F2 I2 T2 g2 q2
          have := T2.td.pn
          omega
        | succ m ih =>
          intro a3 h2 C2 p2 ha hp F2 I2 T2 g2 q2
          have e1 : ((a3 : Int) + 1) = ((a3 + 1 : Nat) : Int) := by omega
          have wd := T2.td.wd
          have ky := kyr_2 (wdv t n p2)
          have gl := g2.ln
          rw [B44_8, if_neg (by omega), ga k5, I2.r0, ga G.k2]
          refine T74 G T2 ?_
          unfold sTermR at q2
          rw [o1, List.cons_append, List.nil_append, B44_22, if_neg (by decide), ga k5, I2.r0, ga G.k2, wd]
          simp only [c64eq, ne_eq]
          by_cases y : kyr (wdv t n p2) = 2
          · rw [if_pos y] at q2
            rw [if_neg (fun z => z (by rw [← ky]; exact y)), ga k5, ga G.k2]
            have wl := wlen (kyr_w (w := wdv t n p2) (by omega))
            refine T79 G T2 (fun h3 f3 T3 => ?_)
            have I3 := I2.tok hr f3
            have F3 := F2.tok f3
            rw [o0, List.nil_append, B44_46, ga k5]
            refine H.1 (D + 3) (by omega) h3 C2 _ _ I3 T3 g2.ok (by omega) ⟨fun k pl h4 e4 F4 J4 X4 => ?_, fun C4 p4 h4 e4 F4 I4 T4 => ?_⟩
            · rw [e4] at q2
              rw [o0, List.nil_append, B44_52, ga J4.rk.k0]
              refine J38 hr J4 (fun h5 f5 J5 => ?_)
              rw [o0, List.nil_append, B44_59]
              have F5 : FR r h h5 := (F3.tr F4).tr (fun a a2 a5 al => f5 a (by omega) (by omega))
              exact exF D h h5 k pl _ Q F5 J5 (X4.keep (f5 2 (by omega) (by omega))) (fun h6 F6 J6 X6 => q2.1 k pl h6 rfl F6 J6 X6)
            · rw [e4] at q2
              have g4 := GR.step hF O.dn.1 (o := 2) (by decide) (by omega) e4 g2
              have g5 := hF _ _ _ _ e4 (nxt_r t (n := n) T2.td.pn).2.1 g2.ok
              have gl4 := g4.ln
              have gle := g4.le
              have el : (C4.emit 2 0).ln = C4.ln + 1 := rfl
              rw [o0, List.nil_append, B44_52, ga I4.rk.k0, show (9 : Int) = stc 2 by decide]
              refine S38 hr I4 g5.ok (by decide) (by decide) (by omega) (fun h5 f5 I5 => ?_)
              have F5 : FR r h h5 := (F3.tr F4).tr (fun a a2 a5 al => f5 a (by omega) (by omega))
              have lt := g5.lt
              rw [o0, List.nil_append, B44_59, w32_id (by omega) (by omega), e1]
              exact ih (a3 + 1) h5 (C4.emit 2 0) p4 (by omega) (by omega) F5 I5 (T4.keep (f5 2 (by omega) (by omega)) (f5 3 (by omega) (by omega))) g4 q2
          · rw [if_neg y] at q2
            rw [if_pos (fun z => y (by rw [ky]; exact z)), B44_65]
            exact q2.2 C2 p2 h2 rfl F2 I2 T2
      rw [o0, List.nil_append, B44_6]
      have lt := g1.lt
      exact lp 300 0 h1 C1 p1 (by decide) (by omega) F1 I1 T1 g1 q
  · obtain ⟨D, rfl⟩ : ∃ d, D = d + 4 := ⟨D - 4, by omega⟩
    rw [E44, ga k5]
    refine H.2 (D + 3) (by omega) h kk pl _ J T (fun h2 F2 J2 X2 => ?_)
    rw [o0, List.nil_append, B44_6]
    exact exF D h h2 kk pl 0 Q F2 J2 X2 q
theorem S43 {g : KG} (G : GT g) (k5 : gK g 5 = 6) {r : Int} (hr : r = 20 ∨ r = 52) {t : Int → Int} {n : Nat} (n3 : n ≤ 300) {F : PR → Nat → RRz} (hF : GF n F) {w : Int} {D0 : Nat} (d3 : 3 ≤ D0) (H : HP g 44 r t n (sTerm t n F) w D0) : HP g 43 r t n (sTerms t n F) w (D0 + 1) := by
  have exF : ∀ (D : Nat) (h h1 : KH) (kk pl a3 : Int) (Q : Option KV → KG → KH → Prop), FR r h h1 → RJ g h1 r → KF h1 n kk pl → (∀ h2 : KH, FR r h h2 → RJ g h2 r → KF h2 n kk pl → Q none g h2) → Rn (D + 3) 43 8 [xR 5, xR r, xI w, xI a3] [] g h1 Q := by
    intro D h h1 kk pl a3 Q F1 J T q
    rw [B43_8]
    split
    · rw [B43_65]; exact q h1 F1 J T
    · rw [ga k5, J.r0, ga G.k2]
      refine F74 G T ?_
      rw [o1, List.cons_append, List.nil_append, B43_22, if_pos rfl, B43_65]
      exact q h1 F1 J T
  refine ⟨fun D hD h C p Q I T O l q => ?_, fun D hD h kk pl Q J T q => ?_⟩
  · obtain ⟨D, rfl⟩ : ∃ d, D = d + 4 := ⟨D - 4, by omega⟩
    rw [E43, ga k5]
    unfold sTerms at q
    refine H.1 (D + 3) (by omega) h C p _ I T O l ⟨fun k pl h2 e F2 J X => ?_, fun C1 p1 h1 e F1 I1 T1 => ?_⟩
    · rw [e] at q
      rw [o0, List.nil_append, B43_6]
      exact exF D h h2 k pl 0 Q F2 J X (fun h3 F3 J3 X3 => q.1 k pl h3 rfl F3 J3 X3)
    · rw [e] at q
      have g1 := hF.term _ _ _ _ e T.td.pn O
      have lp : ∀ (m : Nat) (a3 : Nat) (h2 : KH) (C2 : PR) (p2 : Nat), a3 + m = 300 → a3 < p2 → FR r h h2 → RI g h2 r C2 → KP h2 t n p2 → GR n C p C2 p2 → RPo g r t n h (sTermsR t n F (m + 1) C2 p2) Q → Rn (D + 3) 43 8 [xR 5, xR r, xI w, xI (a3 : Int)] [] g h2 Q := by
        intro m
        induction m with
        | zero =>
          intro a3 h2 C2 p2 ha hp F2 I2 T2 g2 q2
          have := T2.td.pn
          omega
        | succ m ih =>
          intro a3 h2 C2 p2 ha hp F2 I2 T2 g2 q2
          have e1 : ((a3 : Int) + 1) = ((a3 + 1 : Nat) : Int) := by omega
          have wd := T2.td.wd
          have ky := kyr_1 (wdv t n p2)
          have gl := g2.ln
          rw [B43_8, if_neg (by omega), ga k5, I2.r0, ga G.k2]
          refine T74 G T2 ?_
          unfold sTermsR at q2
          rw [o1, List.cons_append, List.nil_append, B43_22, if_neg (by decide), ga k5, I2.r0, ga G.k2, wd]
          simp only [c64eq, ne_eq]
          by_cases y : kyr (wdv t n p2) = 1
          · rw [if_pos y] at q2
            rw [if_neg (fun z => z (by rw [← ky]; exact y)), ga k5, ga G.k2]
            have wl := wlen (kyr_w (w := wdv t n p2) (by omega))
            refine T79 G T2 (fun h3 f3 T3 => ?_)
            have I3 := I2.tok hr f3
            have F3 := F2.tok f3
            rw [o0, List.nil_append, B43_46, ga k5]
            refine H.1 (D + 3) (by omega) h3 C2 _ _ I3 T3 g2.ok (by omega) ⟨fun k pl h4 e4 F4 J4 X4 => ?_, fun C4 p4 h4 e4 F4 I4 T4 => ?_⟩
            · rw [e4] at q2
              rw [o0, List.nil_append, B43_52, ga J4.rk.k0]
              refine J38 hr J4 (fun h5 f5 J5 => ?_)
              rw [o0, List.nil_append, B43_59]
              have F5 : FR r h h5 := (F3.tr F4).tr (fun a a2 a5 al => f5 a (by omega) (by omega))
              exact exF D h h5 k pl _ Q F5 J5 (X4.keep (f5 2 (by omega) (by omega))) (fun h6 F6 J6 X6 => q2.1 k pl h6 rfl F6 J6 X6)
            · rw [e4] at q2
              have g4 := GR.step hF.term O.dn.1 (o := 1) (by decide) (by omega) e4 g2
              have g5 := hF.term _ _ _ _ e4 (nxt_r t (n := n) T2.td.pn).2.1 g2.ok
              have gl4 := g4.ln
              have gle := g4.le
              have el : (C4.emit 1 0).ln = C4.ln + 1 := rfl
              rw [o0, List.nil_append, B43_52, ga I4.rk.k0, show (10 : Int) = stc 1 by decide]
              refine S38 hr I4 g5.ok (by decide) (by decide) (by omega) (fun h5 f5 I5 => ?_)
              have F5 : FR r h h5 := (F3.tr F4).tr (fun a a2 a5 al => f5 a (by omega) (by omega))
              have lt := g5.lt
              rw [o0, List.nil_append, B43_59, w32_id (by omega) (by omega), e1]
              exact ih (a3 + 1) h5 (C4.emit 1 0) p4 (by omega) (by omega) F5 I5 (T4.keep (f5 2 (by omega) (by omega)) (f5 3 (by omega) (by omega))) g4 q2
          · rw [if_neg y] at q2
            rw [if_pos (fun z => y (by rw [ky]; exact z)), B43_65]
            exact q2.2 C2 p2 h2 rfl F2 I2 T2
      rw [o0, List.nil_append, B43_6]
      have lt := g1.lt
      exact lp 300 0 h1 C1 p1 (by decide) (by omega) F1 I1 T1 g1 q
  · obtain ⟨D, rfl⟩ : ∃ d, D = d + 4 := ⟨D - 4, by omega⟩
    rw [E43, ga k5]
    refine H.2 (D + 3) (by omega) h kk pl _ J T (fun h2 F2 J2 X2 => ?_)
    rw [o0, List.nil_append, B43_6]
    exact exF D h h2 kk pl 0 Q F2 J2 X2 q
