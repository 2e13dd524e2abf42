/-! THE WHOLE WORLD, and what class and model hold of it. -/
abbrev Wd : Type := (St) × (Int → St) × (Int) × (Int → Int) × (Int → Int) × (Int → Int → Int) × (Int → Int) × (Int) × (Int) × (Int) × (Int) × (Int) × (Int) × (Int) × (Int → Int) × (Int)
def Wd.cur (A : Wd) : St := A.1
def Wd.mks (A : Wd) : Int → St := A.2.1
def Wd.nmk (A : Wd) : Int := A.2.2.1
def Wd.ts (A : Wd) : Int → Int := A.2.2.2.1
def Wd.tm (A : Wd) : Int → Int := A.2.2.2.2.1
def Wd.tv (A : Wd) : Int → Int → Int := A.2.2.2.2.2.1
def Wd.tp (A : Wd) : Int → Int := A.2.2.2.2.2.2.1
def Wd.fed (A : Wd) : Int := A.2.2.2.2.2.2.2.1
def Wd.stt (A : Wd) : Int := A.2.2.2.2.2.2.2.2.1
def Wd.top (A : Wd) : Int := A.2.2.2.2.2.2.2.2.2.1
def Wd.bot (A : Wd) : Int := A.2.2.2.2.2.2.2.2.2.2.1
def Wd.fk (A : Wd) : Int := A.2.2.2.2.2.2.2.2.2.2.2.1
def Wd.fp (A : Wd) : Int := A.2.2.2.2.2.2.2.2.2.2.2.2.1
def Wd.hm (A : Wd) : Int := A.2.2.2.2.2.2.2.2.2.2.2.2.2.1
def Wd.hd (A : Wd) : Int → Int := A.2.2.2.2.2.2.2.2.2.2.2.2.2.2.1
def Wd.fs (A : Wd) : Int := A.2.2.2.2.2.2.2.2.2.2.2.2.2.2.2
def Wd.mk_ (cur_ : St) (mks_ : Int → St) (nmk_ : Int) (ts_ : Int → Int) (tm_ : Int → Int) (tv_ : Int → Int → Int) (tp_ : Int → Int) (fed_ : Int) (stt_ : Int) (top_ : Int) (bot_ : Int) (fk_ : Int) (fp_ : Int) (hm_ : Int) (hd_ : Int → Int) (fs_ : Int) : Wd := (cur_, mks_, nmk_, ts_, tm_, tv_, tp_, fed_, stt_, top_, bot_, fk_, fp_, hm_, hd_, fs_)
/-- the class's fixed objects but the one that the law holds (0) -/
def CK (g : KG) (h : KH) : Prop := (gK g 1 = 24) ∧ (gL g 1 = 4) ∧ (∀ t, 0 ≤ t → t < 4 → h 1 t = 55 + 2 * t) ∧ (gK g 2 = 9) ∧ (h 2 0 = 3) ∧ (gK g 3 = 22) ∧ (gL g 3 = 700) ∧ (gK g 4 = 4) ∧ (h 4 0 = 2) ∧ (gK g 5 = 6) ∧ (h 5 0 = 2) ∧ (gK g 31 = 25) ∧ (gL g 31 = 3) ∧ (∀ t, 0 ≤ t → t < 3 → h 31 t = 63 + 25 * t) ∧ (gK g 32 = 1) ∧ (h 32 0 = 6) ∧ (h 32 1 = 33) ∧ (h 32 2 = 34) ∧ (gK g 33 = 20) ∧ (gL g 33 = 16) ∧ (gK g 34 = 20) ∧ (gL g 34 = 16) ∧ (gK g 36 = 0) ∧ (h 36 0 = 6) ∧ (h 36 1 = 37) ∧ (h 36 2 = 38) ∧ (gK g 37 = 20) ∧ (gL g 37 = 1000) ∧ (gK g 38 = 20) ∧ (gL g 38 = 1000) ∧ (∀ t, 0 ≤ t → t < 4 → gK g (55 + 2 * t) = 10 ∧ h (55 + 2 * t) 2 = 56 + 2 * t ∧ gK g (56 + 2 * t) = 21 ∧ gL g (56 + 2 * t) = 60)
theorem CK.k1 {g : KG} {h : KH} (z_ : CK g h) : gK g 1 = 24 := z_.1
theorem CK.l1 {g : KG} {h : KH} (z_ : CK g h) : gL g 1 = 4 := z_.2.1
theorem CK.t0 {g : KG} {h : KH} (z_ : CK g h) : ∀ t, 0 ≤ t → t < 4 → h 1 t = 55 + 2 * t := z_.2.2.1
theorem CK.k2 {g : KG} {h : KH} (z_ : CK g h) : gK g 2 = 9 := z_.2.2.2.1
theorem CK.p2 {g : KG} {h : KH} (z_ : CK g h) : h 2 0 = 3 := z_.2.2.2.2.1
theorem CK.k3 {g : KG} {h : KH} (z_ : CK g h) : gK g 3 = 22 := z_.2.2.2.2.2.1
theorem CK.l3 {g : KG} {h : KH} (z_ : CK g h) : gL g 3 = 700 := z_.2.2.2.2.2.2.1
theorem CK.k4 {g : KG} {h : KH} (z_ : CK g h) : gK g 4 = 4 := z_.2.2.2.2.2.2.2.1
theorem CK.p4 {g : KG} {h : KH} (z_ : CK g h) : h 4 0 = 2 := z_.2.2.2.2.2.2.2.2.1
theorem CK.k5 {g : KG} {h : KH} (z_ : CK g h) : gK g 5 = 6 := z_.2.2.2.2.2.2.2.2.2.1
theorem CK.p5 {g : KG} {h : KH} (z_ : CK g h) : h 5 0 = 2 := z_.2.2.2.2.2.2.2.2.2.2.1
theorem CK.k31 {g : KG} {h : KH} (z_ : CK g h) : gK g 31 = 25 := z_.2.2.2.2.2.2.2.2.2.2.2.1
theorem CK.l31 {g : KG} {h : KH} (z_ : CK g h) : gL g 31 = 3 := z_.2.2.2.2.2.2.2.2.2.2.2.2.1
theorem CK.t31 {g : KG} {h : KH} (z_ : CK g h) : ∀ t, 0 ≤ t → t < 3 → h 31 t = 63 + 25 * t := z_.2.2.2.2.2.2.2.2.2.2.2.2.2.1
theorem CK.k32 {g : KG} {h : KH} (z_ : CK g h) : gK g 32 = 1 := z_.2.2.2.2.2.2.2.2.2.2.2.2.2.2.1
theorem CK.p320 {g : KG} {h : KH} (z_ : CK g h) : h 32 0 = 6 := z_.2.2.2.2.2.2.2.2.2.2.2.2.2.2.2.1
theorem CK.p321 {g : KG} {h : KH} (z_ : CK g h) : h 32 1 = 33 := z_.2.2.2.2.2.2.2.2.2.2.2.2.2.2.2.2.1
theorem CK.p322 {g : KG} {h : KH} (z_ : CK g h) : h 32 2 = 34 := z_.2.2.2.2.2.2.2.2.2.2.2.2.2.2.2.2.2.1
theorem CK.k33 {g : KG} {h : KH} (z_ : CK g h) : gK g 33 = 20 := z_.2.2.2.2.2.2.2.2.2.2.2.2.2.2.2.2.2.2.1
theorem CK.l33 {g : KG} {h : KH} (z_ : CK g h) : gL g 33 = 16 := z_.2.2.2.2.2.2.2.2.2.2.2.2.2.2.2.2.2.2.2.1
theorem CK.k34 {g : KG} {h : KH} (z_ : CK g h) : gK g 34 = 20 := z_.2.2.2.2.2.2.2.2.2.2.2.2.2.2.2.2.2.2.2.2.1
theorem CK.l34 {g : KG} {h : KH} (z_ : CK g h) : gL g 34 = 16 := z_.2.2.2.2.2.2.2.2.2.2.2.2.2.2.2.2.2.2.2.2.2.1
theorem CK.k36 {g : KG} {h : KH} (z_ : CK g h) : gK g 36 = 0 := z_.2.2.2.2.2.2.2.2.2.2.2.2.2.2.2.2.2.2.2.2.2.2.1
theorem CK.p360 {g : KG} {h : KH} (z_ : CK g h) : h 36 0 = 6 := z_.2.2.2.2.2.2.2.2.2.2.2.2.2.2.2.2.2.2.2.2.2.2.2.1
theorem CK.p361 {g : KG} {h : KH} (z_ : CK g h) : h 36 1 = 37 := z_.2.2.2.2.2.2.2.2.2.2.2.2.2.2.2.2.2.2.2.2.2.2.2.2.1
theorem CK.p362 {g : KG} {h : KH} (z_ : CK g h) : h 36 2 = 38 := z_.2.2.2.2.2.2.2.2.2.2.2.2.2.2.2.2.2.2.2.2.2.2.2.2.2.1
theorem CK.k37 {g : KG} {h : KH} (z_ : CK g h) : gK g 37 = 20 := z_.2.2.2.2.2.2.2.2.2.2.2.2.2.2.2.2.2.2.2.2.2.2.2.2.2.2.1
theorem CK.l37 {g : KG} {h : KH} (z_ : CK g h) : gL g 37 = 1000 := z_.2.2.2.2.2.2.2.2.2.2.2.2.2.2.2.2.2.2.2.2.2.2.2.2.2.2.2.1
theorem CK.k38 {g : KG} {h : KH} (z_ : CK g h) : gK g 38 = 20 := z_.2.2.2.2.2.2.2.2.2.2.2.2.2.2.2.2.2.2.2.2.2.2.2.2.2.2.2.2.1
theorem CK.l38 {g : KG} {h : KH} (z_ : CK g h) : gL g 38 = 1000 := z_.2.2.2.2.2.2.2.2.2.2.2.2.2.2.2.2.2.2.2.2.2.2.2.2.2.2.2.2.2.1
theorem CK.kt {g : KG} {h : KH} (z_ : CK g h) : ∀ t, 0 ≤ t → t < 4 → gK g (55 + 2 * t) = 10 ∧ h (55 + 2 * t) 2 = 56 + 2 * t ∧ gK g (56 + 2 * t) = 21 ∧ gL g (56 + 2 * t) = 60 := z_.2.2.2.2.2.2.2.2.2.2.2.2.2.2.2.2.2.2.2.2.2.2.2.2.2.2.2.2.2.2
/-- the class's own object -/
def CX (g : KG) (h : KH) (W : Wd) (l2 r2 : Int) : Prop := (gK g 0 = 11) ∧ (h 0 0 = 1) ∧ (h 0 1 = 2) ∧ (h 0 2 = 4) ∧ (h 0 3 = 5) ∧ (h 0 4 = 6) ∧ (h 0 5 = 31) ∧ (h 0 6 = 32) ∧ (h 0 7 = 35) ∧ (h 0 8 = 36) ∧ (h 0 9 = l2) ∧ (h 0 10 = r2) ∧ (h 0 11 = W.stt) ∧ (h 0 12 = W.top) ∧ (h 0 13 = W.bot) ∧ (h 0 14 = W.nmk) ∧ (0 ≤ W.nmk ∧ W.nmk ≤ 3) ∧ (h 0 17 = W.hm) ∧ (W.hm = -1 ∨ (0 ≤ W.hm ∧ W.hm ≤ 6 ∧ ∀ q, 0 ≤ q → q < W.hm → dg (h 0 16) q = W.hd q)) ∧ (h 0 18 = W.fs)
theorem CX.k0 {g : KG} {h : KH} {W : Wd} {l2 r2 : Int} (z_ : CX g h W l2 r2) : gK g 0 = 11 := z_.1
theorem CX.p0 {g : KG} {h : KH} {W : Wd} {l2 r2 : Int} (z_ : CX g h W l2 r2) : h 0 0 = 1 := z_.2.1
theorem CX.p1 {g : KG} {h : KH} {W : Wd} {l2 r2 : Int} (z_ : CX g h W l2 r2) : h 0 1 = 2 := z_.2.2.1
theorem CX.p2 {g : KG} {h : KH} {W : Wd} {l2 r2 : Int} (z_ : CX g h W l2 r2) : h 0 2 = 4 := z_.2.2.2.1
theorem CX.p3 {g : KG} {h : KH} {W : Wd} {l2 r2 : Int} (z_ : CX g h W l2 r2) : h 0 3 = 5 := z_.2.2.2.2.1
theorem CX.p4 {g : KG} {h : KH} {W : Wd} {l2 r2 : Int} (z_ : CX g h W l2 r2) : h 0 4 = 6 := z_.2.2.2.2.2.1
theorem CX.p5 {g : KG} {h : KH} {W : Wd} {l2 r2 : Int} (z_ : CX g h W l2 r2) : h 0 5 = 31 := z_.2.2.2.2.2.2.1
theorem CX.p6 {g : KG} {h : KH} {W : Wd} {l2 r2 : Int} (z_ : CX g h W l2 r2) : h 0 6 = 32 := z_.2.2.2.2.2.2.2.1
theorem CX.p7 {g : KG} {h : KH} {W : Wd} {l2 r2 : Int} (z_ : CX g h W l2 r2) : h 0 7 = 35 := z_.2.2.2.2.2.2.2.2.1
theorem CX.p8 {g : KG} {h : KH} {W : Wd} {l2 r2 : Int} (z_ : CX g h W l2 r2) : h 0 8 = 36 := z_.2.2.2.2.2.2.2.2.2.1
theorem CX.p9 {g : KG} {h : KH} {W : Wd} {l2 r2 : Int} (z_ : CX g h W l2 r2) : h 0 9 = l2 := z_.2.2.2.2.2.2.2.2.2.2.1
theorem CX.p10 {g : KG} {h : KH} {W : Wd} {l2 r2 : Int} (z_ : CX g h W l2 r2) : h 0 10 = r2 := z_.2.2.2.2.2.2.2.2.2.2.2.1
theorem CX.stt {g : KG} {h : KH} {W : Wd} {l2 r2 : Int} (z_ : CX g h W l2 r2) : h 0 11 = W.stt := z_.2.2.2.2.2.2.2.2.2.2.2.2.1
theorem CX.top {g : KG} {h : KH} {W : Wd} {l2 r2 : Int} (z_ : CX g h W l2 r2) : h 0 12 = W.top := z_.2.2.2.2.2.2.2.2.2.2.2.2.2.1
theorem CX.bot {g : KG} {h : KH} {W : Wd} {l2 r2 : Int} (z_ : CX g h W l2 r2) : h 0 13 = W.bot := z_.2.2.2.2.2.2.2.2.2.2.2.2.2.2.1
theorem CX.nmk {g : KG} {h : KH} {W : Wd} {l2 r2 : Int} (z_ : CX g h W l2 r2) : h 0 14 = W.nmk := z_.2.2.2.2.2.2.2.2.2.2.2.2.2.2.2.1
theorem CX.nm3 {g : KG} {h : KH} {W : Wd} {l2 r2 : Int} (z_ : CX g h W l2 r2) : 0 ≤ W.nmk ∧ W.nmk ≤ 3 := z_.2.2.2.2.2.2.2.2.2.2.2.2.2.2.2.2.1
theorem CX.hm {g : KG} {h : KH} {W : Wd} {l2 r2 : Int} (z_ : CX g h W l2 r2) : h 0 17 = W.hm := z_.2.2.2.2.2.2.2.2.2.2.2.2.2.2.2.2.2.1
theorem CX.hd {g : KG} {h : KH} {W : Wd} {l2 r2 : Int} (z_ : CX g h W l2 r2) : W.hm = -1 ∨ (0 ≤ W.hm ∧ W.hm ≤ 6 ∧ ∀ q, 0 ≤ q → q < W.hm → dg (h 0 16) q = W.hd q) := z_.2.2.2.2.2.2.2.2.2.2.2.2.2.2.2.2.2.2.1
theorem CX.fs {g : KG} {h : KH} {W : Wd} {l2 r2 : Int} (z_ : CX g h W l2 r2) : h 0 18 = W.fs := z_.2.2.2.2.2.2.2.2.2.2.2.2.2.2.2.2.2.2.2
/-- the judge: its state -/
def CJ (g : KG) (h : KH) : Prop := (gK g 35 = 2) ∧ (h 35 0 = 6)
theorem CJ.k35 {g : KG} {h : KH} (z_ : CJ g h) : gK g 35 = 2 := z_.1
theorem CJ.p35 {g : KG} {h : KH} (z_ : CJ g h) : h 35 0 = 6 := z_.2
def CT (h : KH) (W : Wd) : Prop := (∀ t, 0 ≤ t → t < 4 → (W.tm t = -1 ∧ h (55 + 2 * t) 0 = -1) ∨ (0 ≤ W.tm t ∧ W.tm t ≤ 60 ∧ 0 ≤ W.ts t ∧ W.ts t ≤ 3 ∧ h (55 + 2 * t) 0 = W.ts t ∧ h (55 + 2 * t) 1 = W.tm t)) ∧ (∀ t p, 0 ≤ t → t < 4 → 0 ≤ p → p < W.tm t → h (56 + 2 * t) p = W.tv t p)
theorem CT.tm {h : KH} {W : Wd} (z_ : CT h W) : ∀ t, 0 ≤ t → t < 4 → (W.tm t = -1 ∧ h (55 + 2 * t) 0 = -1) ∨ (0 ≤ W.tm t ∧ W.tm t ≤ 60 ∧ 0 ≤ W.ts t ∧ W.ts t ≤ 3 ∧ h (55 + 2 * t) 0 = W.ts t ∧ h (55 + 2 * t) 1 = W.tm t) := z_.1
theorem CT.tv {h : KH} {W : Wd} (z_ : CT h W) : ∀ t p, 0 ≤ t → t < 4 → 0 ≤ p → p < W.tm t → h (56 + 2 * t) p = W.tv t p := z_.2
def CF (h : KH) (W : Wd) : Prop := (h 2 1 = W.fed) ∧ (0 ≤ W.fed ∧ W.fed ≤ 700) ∧ (∀ k, 0 ≤ k → k < W.fed → h 3 k = W.tp k) ∧ ((h 0 15 = 0 ∧ W.fk = -1 ∧ W.fp = -1) ∨ (h 0 15 = 1 ∧ h 2 2 = W.fk ∧ h 2 3 = W.fp)) ∧ (∀ k, 0 ≤ k → k < W.fed → -128 ≤ W.tp k ∧ W.tp k ≤ 127)
theorem CF.fed {h : KH} {W : Wd} (z_ : CF h W) : h 2 1 = W.fed := z_.1
theorem CF.f7 {h : KH} {W : Wd} (z_ : CF h W) : 0 ≤ W.fed ∧ W.fed ≤ 700 := z_.2.1
theorem CF.tp {h : KH} {W : Wd} (z_ : CF h W) : ∀ k, 0 ≤ k → k < W.fed → h 3 k = W.tp k := z_.2.2.1
theorem CF.fa {h : KH} {W : Wd} (z_ : CF h W) : (h 0 15 = 0 ∧ W.fk = -1 ∧ W.fp = -1) ∨ (h 0 15 = 1 ∧ h 2 2 = W.fk ∧ h 2 3 = W.fp) := z_.2.2.2.1
theorem CF.tb {h : KH} {W : Wd} (z_ : CF h W) : ∀ k, 0 ≤ k → k < W.fed → -128 ≤ W.tp k ∧ W.tp k ≤ 127 := z_.2.2.2.2
/-- a state's shape -/
def SH (g : KG) (h : KH) (s l r : Int) : Prop := (SK g h s) ∧ (h s 0 = l) ∧ (h s 1 = r) ∧ (LK g h l) ∧ (TK g h (l + 3)) ∧ (TK g h (l + 7)) ∧ (RK g h r)
theorem SH.sk {g : KG} {h : KH} {s l r : Int} (z_ : SH g h s l r) : SK g h s := z_.1
theorem SH.pl {g : KG} {h : KH} {s l r : Int} (z_ : SH g h s l r) : h s 0 = l := z_.2.1
theorem SH.pr {g : KG} {h : KH} {s l r : Int} (z_ : SH g h s l r) : h s 1 = r := z_.2.2.1
theorem SH.lk {g : KG} {h : KH} {s l r : Int} (z_ : SH g h s l r) : LK g h l := z_.2.2.2.1
theorem SH.tl {g : KG} {h : KH} {s l r : Int} (z_ : SH g h s l r) : TK g h (l + 3) := z_.2.2.2.2.1
theorem SH.tm {g : KG} {h : KH} {s l r : Int} (z_ : SH g h s l r) : TK g h (l + 7) := z_.2.2.2.2.2.1
theorem SH.rk {g : KG} {h : KH} {s l r : Int} (z_ : SH g h s l r) : RK g h r := z_.2.2.2.2.2.2
def CM (g : KG) (h : KH) (W : Wd) : Prop := (W.nmk ≤ 3) ∧ (∀ i, 0 ≤ i → i < 3 → SH g h (63 + 25 * i) (64 + 25 * i) (77 + 25 * i)) ∧ (∀ i, 0 ≤ i → i < W.nmk → SR g h (63 + 25 * i) (64 + 25 * i) (77 + 25 * i) (W.mks i) ∧ (W.mks i).Ok)
theorem CM.n3 {g : KG} {h : KH} {W : Wd} (z_ : CM g h W) : W.nmk ≤ 3 := z_.1
theorem CM.sh {g : KG} {h : KH} {W : Wd} (z_ : CM g h W) : ∀ i, 0 ≤ i → i < 3 → SH g h (63 + 25 * i) (64 + 25 * i) (77 + 25 * i) := z_.2.1
theorem CM.mk {g : KG} {h : KH} {W : Wd} (z_ : CM g h W) : ∀ i, 0 ≤ i → i < W.nmk → SR g h (63 + 25 * i) (64 + 25 * i) (77 + 25 * i) (W.mks i) ∧ (W.mks i).Ok := z_.2.2
def CS (g : KG) (h : KH) (W : Wd) (l r l2 r2 : Int) : Prop := ((l = 7 ∧ l2 = 39) ∨ (l = 39 ∧ l2 = 7)) ∧ ((r = 20 ∧ r2 = 52) ∨ (r = 52 ∧ r2 = 20)) ∧ (SR g h 6 l r W.cur) ∧ (W.cur.Ok) ∧ (LK g h l2) ∧ (TK g h (l2 + 3)) ∧ (TK g h (l2 + 7)) ∧ (RK g h r2) ∧ (h (r2 + 1) 0 = 0)
theorem CS.l {g : KG} {h : KH} {W : Wd} {l r l2 r2 : Int} (z_ : CS g h W l r l2 r2) : (l = 7 ∧ l2 = 39) ∨ (l = 39 ∧ l2 = 7) := z_.1
theorem CS.r {g : KG} {h : KH} {W : Wd} {l r l2 r2 : Int} (z_ : CS g h W l r l2 r2) : (r = 20 ∧ r2 = 52) ∨ (r = 52 ∧ r2 = 20) := z_.2.1
theorem CS.S {g : KG} {h : KH} {W : Wd} {l r l2 r2 : Int} (z_ : CS g h W l r l2 r2) : SR g h 6 l r W.cur := z_.2.2.1
theorem CS.O {g : KG} {h : KH} {W : Wd} {l r l2 r2 : Int} (z_ : CS g h W l r l2 r2) : W.cur.Ok := z_.2.2.2.1
theorem CS.lk {g : KG} {h : KH} {W : Wd} {l r l2 r2 : Int} (z_ : CS g h W l r l2 r2) : LK g h l2 := z_.2.2.2.2.1
theorem CS.tl {g : KG} {h : KH} {W : Wd} {l r l2 r2 : Int} (z_ : CS g h W l r l2 r2) : TK g h (l2 + 3) := z_.2.2.2.2.2.1
theorem CS.tm {g : KG} {h : KH} {W : Wd} {l r l2 r2 : Int} (z_ : CS g h W l r l2 r2) : TK g h (l2 + 7) := z_.2.2.2.2.2.2.1
theorem CS.rk {g : KG} {h : KH} {W : Wd} {l r l2 r2 : Int} (z_ : CS g h W l r l2 r2) : RK g h r2 := z_.2.2.2.2.2.2.2.1
theorem CS.rz {g : KG} {h : KH} {W : Wd} {l r l2 r2 : Int} (z_ : CS g h W l r l2 r2) : h (r2 + 1) 0 = 0 := z_.2.2.2.2.2.2.2.2
def CR (g : KG) (h : KH) (W : Wd) : Prop := ∃ l r l2 r2, CK g h ∧ CJ g h ∧ CX g h W l2 r2 ∧ CT h W ∧ CF h W ∧ CM g h W ∧ CS g h W l r l2 r2
def MX (h : KH) (W : Wd) : Prop := (h 138 1 = W.stt) ∧ (h 138 2 = W.top) ∧ (h 138 3 = W.bot) ∧ (h 138 9 = W.fed) ∧ (h 138 15 = W.fk) ∧ (h 138 16 = W.fp) ∧ (h 138 35 = W.hm) ∧ (h 138 38 = W.fs) ∧ (h 138 40 = W.nmk)
theorem MX.stt {h : KH} {W : Wd} (z_ : MX h W) : h 138 1 = W.stt := z_.1
theorem MX.top {h : KH} {W : Wd} (z_ : MX h W) : h 138 2 = W.top := z_.2.1
theorem MX.bot {h : KH} {W : Wd} (z_ : MX h W) : h 138 3 = W.bot := z_.2.2.1
theorem MX.fed {h : KH} {W : Wd} (z_ : MX h W) : h 138 9 = W.fed := z_.2.2.2.1
theorem MX.fk {h : KH} {W : Wd} (z_ : MX h W) : h 138 15 = W.fk := z_.2.2.2.2.1
theorem MX.fp {h : KH} {W : Wd} (z_ : MX h W) : h 138 16 = W.fp := z_.2.2.2.2.2.1
theorem MX.hm {h : KH} {W : Wd} (z_ : MX h W) : h 138 35 = W.hm := z_.2.2.2.2.2.2.1
theorem MX.fs {h : KH} {W : Wd} (z_ : MX h W) : h 138 38 = W.fs := z_.2.2.2.2.2.2.2.1
theorem MX.nmk {h : KH} {W : Wd} (z_ : MX h W) : h 138 40 = W.nmk := z_.2.2.2.2.2.2.2.2
def MD (h : KH) (W : Wd) : Prop := (∀ t, 0 ≤ t → t < 4 → h 141 t = W.tm t) ∧ (∀ t, 0 ≤ t → t < 4 → W.tm t ≠ -1 → h 140 t = W.ts t) ∧ (∀ t p, 0 ≤ t → t < 4 → 0 ≤ p → p < W.tm t → h 142 (60 * t + p) = W.tv t p) ∧ (∀ k, 0 ≤ k → k < W.fed → h 143 k = W.tp k) ∧ (∀ q, 0 ≤ q → q < W.hm → h 152 q = W.hd q) ∧ (MS (h 139) W.cur) ∧ (∀ i, 0 ≤ i → i < W.nmk → MS (fun j => h 139 (900 * (i + 1) + j)) (W.mks i))
theorem MD.tm {h : KH} {W : Wd} (z_ : MD h W) : ∀ t, 0 ≤ t → t < 4 → h 141 t = W.tm t := z_.1
theorem MD.ts {h : KH} {W : Wd} (z_ : MD h W) : ∀ t, 0 ≤ t → t < 4 → W.tm t ≠ -1 → h 140 t = W.ts t := z_.2.1
theorem MD.tv {h : KH} {W : Wd} (z_ : MD h W) : ∀ t p, 0 ≤ t → t < 4 → 0 ≤ p → p < W.tm t → h 142 (60 * t + p) = W.tv t p := z_.2.2.1
theorem MD.tp {h : KH} {W : Wd} (z_ : MD h W) : ∀ k, 0 ≤ k → k < W.fed → h 143 k = W.tp k := z_.2.2.2.1
theorem MD.hd {h : KH} {W : Wd} (z_ : MD h W) : ∀ q, 0 ≤ q → q < W.hm → h 152 q = W.hd q := z_.2.2.2.2.1
theorem MD.cur {h : KH} {W : Wd} (z_ : MD h W) : MS (h 139) W.cur := z_.2.2.2.2.2.1
theorem MD.mk {h : KH} {W : Wd} (z_ : MD h W) : ∀ i, 0 ≤ i → i < W.nmk → MS (fun j => h 139 (900 * (i + 1) + j)) (W.mks i) := z_.2.2.2.2.2.2
def MR (g : KG) (h : KH) (W : Wd) : Prop := MK g h ∧ MX h W ∧ MD h W
/-! what stays when other objects change -/
theorem TK.keep {g : KG} {h h2 : KH} {t : Int} (e : ∀ a, t ≤ a → a ≤ t + 3 → h2 a = h a) (T : TK g h t) : TK g h2 t := by
  have e0 := e t (by omega) (by omega)
  unfold TK at T ⊢
  rw [e0]
  exact T
theorem TR.keep {g : KG} {h h2 : KH} {t m : Int} {A : St} (e : ∀ a, t ≤ a → a ≤ t + 3 → h2 a = h a) (T : TR g h t A m) : TR g h2 t A m := by
  have e1 := e (t + 1) (by omega) (by omega)
  have e3 := e (t + 3) (by omega) (by omega)
  refine ⟨T.to_.keep e, ?_, ?_⟩
  · rw [e1]; exact T.b
  · rw [e3]; exact T.w
theorem LK.keep {g : KG} {h h2 : KH} {l : Int} (e : ∀ a, l ≤ a → a ≤ l + 12 → h2 a = h a) (T : LK g h l) : LK g h2 l := by
  have e0 := e l (by omega) (by omega)
  unfold LK at T ⊢
  rw [e0]
  exact T
theorem LR.keep {g : KG} {h h2 : KH} {l : Int} {A : St} (e : ∀ a, l ≤ a → a ≤ l + 12 → h2 a = h a) (T : LR g h l A) : LR g h2 l A := by
  have e0 := e l (by omega) (by omega)
  have e2 := e (l + 2) (by omega) (by omega)
  have e11 := e (l + 11) (by omega) (by omega)
  have e12 := e (l + 12) (by omega) (by omega)
  refine ⟨T.to_.keep e, ?_, ?_, ?_, ?_, ?_, ?_, T.tl.keep (fun a h1 h2 => e a (by omega) (by omega)), T.tm.keep (fun a h1 h2 => e a (by omega) (by omega)), ?_, ?_⟩
  · rw [e0]; exact T.nq
  · rw [e0]; exact T.nd
  · rw [e0]; exact T.wk
  · rw [e0]; exact T.ca
  · rw [e0]; exact T.cm
  · rw [e2]; exact T.ch
  · rw [e11]; exact T.dx
  · rw [e12]; exact T.dy
theorem RK.keep {g : KG} {h h2 : KH} {r : Int} (e : ∀ a, r ≤ a → a ≤ r + 2 → h2 a = h a) (T : RK g h r) : RK g h2 r := by
  have e0 := e r (by omega) (by omega)
  unfold RK at T ⊢
  rw [e0]
  exact T
theorem RR.keep {g : KG} {h h2 : KH} {r : Int} {A : St} (e : ∀ a, r ≤ a → a ≤ r + 2 → h2 a = h a) (T : RR g h r A) : RR g h2 r A := by
  have e0 := e r (by omega) (by omega)
  have e1 := e (r + 1) (by omega) (by omega)
  have e2 := e (r + 2) (by omega) (by omega)
  refine ⟨T.to_.keep e, ?_, ?_, ?_, ?_⟩
  · rw [e0]; exact T.nr
  · rw [e0]; exact T.ln
  · rw [e1]; exact T.rs
  · rw [e2]; exact T.cd
theorem SK.keep {g : KG} {h h2 : KH} {s : Int} (e : h2 s = h s) (T : SK g h s) : SK g h2 s := by
  unfold SK at T ⊢
  rw [e]
  exact T
theorem SR.keep {g : KG} {h h2 : KH} {s l r : Int} {A : St} (es : h2 s = h s) (ea : ∀ a, s + 17 ≤ a → a ≤ s + 24 → h2 a = h a) (el : ∀ a, l ≤ a → a ≤ l + 12 → h2 a = h a) (er : ∀ a, r ≤ a → a ≤ r + 2 → h2 a = h a) (T : SR g h s l r A) : SR g h2 s l r A := by
  have e17 := ea (s + 17) (by omega) (by omega)
  have e18 := ea (s + 18) (by omega) (by omega)
  have e19 := ea (s + 19) (by omega) (by omega)
  have e20 := ea (s + 20) (by omega) (by omega)
  have e21 := ea (s + 21) (by omega) (by omega)
  have e22 := ea (s + 22) (by omega) (by omega)
  have e23 := ea (s + 23) (by omega) (by omega)
  have e24 := ea (s + 24) (by omega) (by omega)
  refine ⟨T.to_.keep es, ?_, ?_, T.L.keep el, T.R.keep er, ?_, ?_, ?_, ?_, ?_, ?_, ?_, ?_, ?_⟩
  · rw [es]; exact T.pl
  · rw [es]; exact T.pr
  · rw [es]; exact T.ns
  · rw [e17]; exact T.ask
  · rw [e18]; exact T.dr
  · rw [e19]; exact T.fr
  · rw [e20]; exact T.tt
  · rw [e21]; exact T.pa
  · rw [e22]; exact T.cd
  · rw [e23]; exact T.tr
  · rw [e24]; exact T.hf
theorem SH.keep {g : KG} {h h2 : KH} {s l r : Int} (es : h2 s = h s) (el : ∀ a, l ≤ a → a ≤ l + 12 → h2 a = h a) (er : ∀ a, r ≤ a → a ≤ r + 2 → h2 a = h a) (T : SH g h s l r) : SH g h2 s l r :=
  ⟨T.sk.keep es, by rw [es]; exact T.pl, by rw [es]; exact T.pr, T.lk.keep el, T.tl.keep (fun a h1 h2 => el a (by omega) (by omega)), T.tm.keep (fun a h1 h2 => el a (by omega) (by omega)), T.rk.keep er⟩
theorem CK.keep {g : KG} {h h2 : KH} (e : ∀ a, 1 ≤ a → a < 63 → (a < 6 ∨ 30 < a) → a ≠ 3 → a ≠ 33 → a ≠ 34 → a ≠ 35 → a ≠ 37 → a ≠ 38 → h2 a = h a) (T : CK g h) : CK g h2 := by
  have e1 := e 1 (by decide) (by decide) (by decide) (by decide) (by decide) (by decide) (by decide) (by decide) (by decide)
  have e2 := e 2 (by decide) (by decide) (by decide) (by decide) (by decide) (by decide) (by decide) (by decide) (by decide)
  have e4 := e 4 (by decide) (by decide) (by decide) (by decide) (by decide) (by decide) (by decide) (by decide) (by decide)
  have e5 := e 5 (by decide) (by decide) (by decide) (by decide) (by decide) (by decide) (by decide) (by decide) (by decide)
  have e31 := e 31 (by decide) (by decide) (by decide) (by decide) (by decide) (by decide) (by decide) (by decide) (by decide)
  have e32 := e 32 (by decide) (by decide) (by decide) (by decide) (by decide) (by decide) (by decide) (by decide) (by decide)
  have e36 := e 36 (by decide) (by decide) (by decide) (by decide) (by decide) (by decide) (by decide) (by decide) (by decide)
  have et : ∀ t, 0 ≤ t → t < 4 → h2 (55 + 2 * t) = h (55 + 2 * t) := fun t h0 h1 => e _ (by omega) (by omega) (by omega) (by omega) (by omega) (by omega) (by omega) (by omega) (by omega)
  have hk : ∀ t, 0 ≤ t → t < 4 → gK g (55 + 2 * t) = 10 ∧ h2 (55 + 2 * t) 2 = 56 + 2 * t ∧ gK g (56 + 2 * t) = 21 ∧ gL g (56 + 2 * t) = 60 := fun t h0 h1 => by rw [et t h0 h1]; exact T.kt t h0 h1
  unfold CK at T ⊢
  simp only [e1, e2, e4, e5, e31, e32, e36]
  obtain ⟨a1, a2, a3, a4, a5, a6, a7, a8, a9, a10, a11, a12, a13, a14, a15, a16, a17, a18, a19, a20, a21, a22, a23, a24, a25, a26, a27, a28, a29, a30, -⟩ := T
  exact ⟨a1, a2, a3, a4, a5, a6, a7, a8, a9, a10, a11, a12, a13, a14, a15, a16, a17, a18, a19, a20, a21, a22, a23, a24, a25, a26, a27, a28, a29, a30, hk⟩
theorem CM.keep {g : KG} {h h2 : KH} {W : Wd} (e : ∀ a, 63 ≤ a → a < 138 → h2 a = h a) (T : CM g h W) : CM g h2 W := by
  have n3 := T.n3
  refine ⟨n3, fun i h0 h1 => ?_, fun i h0 h1 => ⟨?_, (T.mk i h0 h1).2⟩⟩
  · exact (T.sh i h0 h1).keep (e _ (by omega) (by omega)) (fun a _ _ => e a (by omega) (by omega)) (fun a _ _ => e a (by omega) (by omega))
  · exact (T.mk i h0 h1).1.keep (e _ (by omega) (by omega)) (fun a _ _ => e a (by omega) (by omega)) (fun a _ _ => e a (by omega) (by omega)) (fun a _ _ => e a (by omega) (by omega))
theorem CS.keep {g : KG} {h h2 : KH} {W : Wd} {l r l2 r2 : Int} (e : ∀ a, 6 ≤ a → a < 55 → (a < 31 ∨ 38 < a) → h2 a = h a) (T : CS g h W l r l2 r2) : CS g h2 W l r l2 r2 := by
  have hl := T.l
  have hr := T.r
  have e1 := e (r2 + 1) (by omega) (by omega) (by omega)
  exact ⟨hl, hr, T.S.keep (e _ (by omega) (by omega) (by omega)) (fun a _ _ => e a (by omega) (by omega) (by omega)) (fun a _ _ => e a (by omega) (by omega) (by omega)) (fun a _ _ => e a (by omega) (by omega) (by omega)), T.O, T.lk.keep (fun a _ _ => e a (by omega) (by omega) (by omega)), T.tl.keep (fun a _ _ => e a (by omega) (by omega) (by omega)), T.tm.keep (fun a _ _ => e a (by omega) (by omega) (by omega)), T.rk.keep (fun a _ _ => e a (by omega) (by omega) (by omega)), by rw [e1]; exact T.rz⟩
theorem CT.keep {h h2 : KH} {W : Wd} (e : ∀ a, 55 ≤ a → a < 63 → h2 a = h a) (T : CT h W) : CT h2 W := by
  refine ⟨fun t h0 h1 => ?_, fun t p h0 h1 p0 p1 => ?_⟩
  · rw [e (55 + 2 * t) (by omega) (by omega)]; exact T.tm t h0 h1
  · rw [e (56 + 2 * t) (by omega) (by omega)]; exact T.tv t p h0 h1 p0 p1
/-- the world with another status; with a fraction told -/
def Wd.st (W : Wd) (s : Int) : Wd := Wd.mk_ W.cur W.mks W.nmk W.ts W.tm W.tv W.tp W.fed s W.top W.bot W.fk W.fp W.hm W.hd W.fs
def Wd.tl (W : Wd) (a b : Int) : Wd := Wd.mk_ W.cur W.mks W.nmk W.ts W.tm W.tv W.tp W.fed 0 a b W.fk W.fp W.hm W.hd W.fs
/-- which objects a call may have written that leaves all but status and fraction -/
def qc (a : Int) : Prop := a = 0 ∨ a = 33 ∨ a = 34 ∨ a = 35 ∨ a = 37 ∨ a = 38
theorem CR.upd {g : KG} {h h2 : KH} {W : Wd} (C : CR g h W) (e : ∀ a, 0 ≤ a → a < 138 → ¬ qc a → h2 a = h a) (e0 : ∀ j, j ≠ 11 → j ≠ 12 → j ≠ 13 → h2 0 j = h 0 j) (ej : h2 35 0 = h 35 0) : CR g h2 (Wd.mk_ W.cur W.mks W.nmk W.ts W.tm W.tv W.tp W.fed (h2 0 11) (h2 0 12) (h2 0 13) W.fk W.fp W.hm W.hd W.fs) := by
  obtain ⟨l, r, l2, r2, C1, C2, C3, C4, C5, C6, C7⟩ := C
  unfold qc at e
  refine ⟨l, r, l2, r2, C1.keep (fun a _ _ _ _ _ _ _ _ _ => e a (by omega) (by omega) (by omega)), ⟨C2.k35, by rw [ej]; exact C2.p35⟩, ?_, C4.keep (fun a _ _ => e a (by omega) (by omega) (by omega)), ?_, C6.keep (fun a _ _ => e a (by omega) (by omega) (by omega)), C7.keep (fun a _ _ _ => e a (by omega) (by omega) (by omega))⟩
  · have z0 := e0 0 (by decide) (by decide) (by decide)
    have z1 := e0 1 (by decide) (by decide) (by decide)
    have z2 := e0 2 (by decide) (by decide) (by decide)
    have z3 := e0 3 (by decide) (by decide) (by decide)
    have z4 := e0 4 (by decide) (by decide) (by decide)
    have z5 := e0 5 (by decide) (by decide) (by decide)
    have z6 := e0 6 (by decide) (by decide) (by decide)
    have z7 := e0 7 (by decide) (by decide) (by decide)
    have z8 := e0 8 (by decide) (by decide) (by decide)
    have z9 := e0 9 (by decide) (by decide) (by decide)
    have z10 := e0 10 (by decide) (by decide) (by decide)
    have z14 := e0 14 (by decide) (by decide) (by decide)
    have z16 := e0 16 (by decide) (by decide) (by decide)
    have z17 := e0 17 (by decide) (by decide) (by decide)
    have z18 := e0 18 (by decide) (by decide) (by decide)
    exact ⟨C3.k0, by rw [z0]; exact C3.p0, by rw [z1]; exact C3.p1, by rw [z2]; exact C3.p2, by rw [z3]; exact C3.p3, by rw [z4]; exact C3.p4, by rw [z5]; exact C3.p5, by rw [z6]; exact C3.p6, by rw [z7]; exact C3.p7, by rw [z8]; exact C3.p8, by rw [z9]; exact C3.p9, by rw [z10]; exact C3.p10, rfl, rfl, rfl, by rw [z14]; exact C3.nmk, C3.nm3, by rw [z17]; exact C3.hm, by rw [z16]; exact C3.hd, by rw [z18]; exact C3.fs⟩
  · have y2 := e 2 (by decide) (by decide) (by decide)
    have y3 := e 3 (by decide) (by decide) (by decide)
    have z15 := e0 15 (by decide) (by decide) (by decide)
    exact ⟨by rw [y2]; exact C5.fed, C5.f7, by rw [y3]; exact C5.tp, by rw [z15, y2]; exact C5.fa, C5.tb⟩
theorem MK.keep {g : KG} {h h2 : KH} (e : ∀ j, (j = 0 ∨ j = 4 ∨ j = 5 ∨ j = 6 ∨ j = 7 ∨ j = 8 ∨ j = 19 ∨ j = 20 ∨ j = 28 ∨ j = 29 ∨ j = 31 ∨ j = 32 ∨ j = 33 ∨ j = 34 ∨ j = 36 ∨ j = 37) → h2 138 j = h 138 j) (T : MK g h) : MK g h2 := by
  have z0 := e 0 (by decide)
  have z4 := e 4 (by decide)
  have z5 := e 5 (by decide)
  have z6 := e 6 (by decide)
  have z7 := e 7 (by decide)
  have z8 := e 8 (by decide)
  have z19 := e 19 (by decide)
  have z20 := e 20 (by decide)
  have z28 := e 28 (by decide)
  have z29 := e 29 (by decide)
  have z31 := e 31 (by decide)
  have z32 := e 32 (by decide)
  have z33 := e 33 (by decide)
  have z34 := e 34 (by decide)
  have z36 := e 36 (by decide)
  have z37 := e 37 (by decide)
  unfold MK at T ⊢
  rw [z0, z4, z5, z6, z7, z8, z19, z20, z28, z29, z31, z32, z33, z34, z36, z37]
  exact T
/-- what the model keeps at such a call: its memory but the scratch ones -/
def qm (j : Int) : Prop := j = 1 ∨ j = 2 ∨ j = 3 ∨ j = 26 ∨ j = 27 ∨ j = 30
theorem MR.upd {g : KG} {h h2 : KH} {W : Wd} (C : MR g h W) (e : ∀ a, 139 ≤ a → a < 155 → (a < 147 ∨ a = 152) → h2 a = h a) (e0 : ∀ j, ¬ qm j → h2 138 j = h 138 j) : MR g h2 (Wd.mk_ W.cur W.mks W.nmk W.ts W.tm W.tv W.tp W.fed (h2 138 1) (h2 138 2) (h2 138 3) W.fk W.fp W.hm W.hd W.fs) := by
  obtain ⟨C1, C2, C3⟩ := C
  unfold qm at e0
  refine ⟨C1.keep (fun j hj => e0 j (by omega)), ?_, ?_⟩
  · exact ⟨rfl, rfl, rfl, by rw [e0 9 (by decide)]; exact C2.fed, by rw [e0 15 (by decide)]; exact C2.fk, by rw [e0 16 (by decide)]; exact C2.fp, by rw [e0 35 (by decide)]; exact C2.hm, by rw [e0 38 (by decide)]; exact C2.fs, by rw [e0 40 (by decide)]; exact C2.nmk⟩
  · have y1 := e 139 (by decide) (by decide) (by decide)
    exact ⟨by rw [e 141 (by decide) (by decide) (by decide)]; exact C3.tm, by rw [e 140 (by decide) (by decide) (by decide)]; exact C3.ts, by rw [e 142 (by decide) (by decide) (by decide)]; exact C3.tv, by rw [e 143 (by decide) (by decide) (by decide)]; exact C3.tp, by rw [e 152 (by decide) (by decide) (by decide)]; exact C3.hd, by rw [y1]; exact C3.cur, by rw [y1]; exact C3.mk⟩
