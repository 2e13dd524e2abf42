/-! THE TEXT OF A LAND: what it says, or the first fault -/
abbrev PL : Type := (St) × (Int → Int) × (Int → Int → Int) × (Int) × (Int)
def PL.A (A : PL) : St := A.1
def PL.na (A : PL) : Int → Int := A.2.1
def PL.tq (A : PL) : Int → Int → Int := A.2.2.1
def PL.tw (A : PL) : Int := A.2.2.2.1
def PL.tc (A : PL) : Int := A.2.2.2.2
def PL.mk_ (A_ : St) (na_ : Int → Int) (tq_ : Int → Int → Int) (tw_ : Int) (tc_ : Int) : PL := (A_, na_, tq_, tw_, tc_)
abbrev LRz : Type := Sum (PL × Nat) (Int × Int)
def isnm (w : Int) : Prop := w ≠ 0 ∧ w ≠ 6386539 ∧ w ≠ 7102839 ∧ w ≠ 1835626084 ∧ w ≠ 25209 ∧ w ≠ 1685024626 ∧ w ≠ 2002873451 ∧ w ≠ 426836649075
def fnd (f : Int → Int) (w : Int) : Nat → Nat → Int
  | 0, _ => -1
  | m + 1, i => if f i = w then (i : Int) else fnd f w m (i + 1)
theorem fnd_r (f : Int → Int) (w : Int) : ∀ m i : Nat, fnd f w m i = -1 ∨ ((i : Int) ≤ fnd f w m i ∧ fnd f w m i < (i : Int) + m) := by
  intro m
  induction m with
  | zero => intro i; exact Or.inl rfl
  | succ m ih =>
    intro i
    unfold fnd
    split
    · exact Or.inr (by omega)
    · have := ih (i + 1)
      omega
theorem fnd_c (f : Int → Int) (w : Int) : ∀ m k i : Nat, k ≤ m → fnd f w k i = if fnd f w m i = -1 ∨ (i : Int) + k ≤ fnd f w m i then -1 else fnd f w m i := by
  intro m
  induction m with
  | zero =>
    intro k i hk
    rw [show k = 0 by omega]
    unfold fnd
    rw [if_pos (Or.inl rfl)]
  | succ m ih =>
    intro k i hk
    match k with
    | 0 =>
      have := fnd_r f w (m + 1) i
      rw [if_pos (by omega)]
      rfl
    | k + 1 =>
      unfold fnd
      by_cases y : f i = w
      · rw [if_pos y, if_pos y, if_neg (by omega)]
      · rw [if_neg y, if_neg y, ih k (i + 1) (by omega)]
        have e : ((i + 1 : Nat) : Int) + k = (i : Int) + (k + 1 : Nat) := by omega
        rw [e]
/-- sixteen, shared out -/
def shq (c a : Int) : Int := 16 / c + (if a < 16 % c then 1 else 0)
def PL.addq (L : PL) (w c : Int) : PL := PL.mk_ (St.mk_ (L.A.nq + 1) L.A.nd L.A.ns L.A.nr L.A.wk L.A.ca L.A.cm (fun q => if q = L.A.nq then c else L.A.ch q) (fun m q => if q = L.A.nq then -1 else L.A.gb m q) (fun m q r a => if q = L.A.nq then shq c a else L.A.wt m q r a) L.A.dx L.A.dy L.A.ask L.A.dr L.A.fr L.A.tt L.A.pa L.A.cd L.A.tr L.A.hf L.A.rs L.A.op L.A.nm L.A.dp) (fun q => if q = L.A.nq then w else L.na q) L.tq L.tw L.tc
def PL.tab (L : PL) (m q b : Int) (w : Int → Int → Int) : PL := PL.mk_ (St.mk_ L.A.nq L.A.nd L.A.ns L.A.nr L.A.wk L.A.ca L.A.cm L.A.ch (fun m2 q2 => if m2 = m ∧ q2 = q then b else L.A.gb m2 q2) (fun m2 q2 r a => if m2 = m ∧ q2 = q then w r a else L.A.wt m2 q2 r a) L.A.dx L.A.dy L.A.ask L.A.dr L.A.fr L.A.tt L.A.pa L.A.cd L.A.tr L.A.hf L.A.rs L.A.op L.A.nm L.A.dp) L.na (fun m2 q2 => if m2 = m ∧ q2 = q then 1 else L.tq m2 q2) L.tw L.tc
def PL.addd (L : PL) (x y : Int) : PL := PL.mk_ (St.mk_ L.A.nq (L.A.nd + 1) L.A.ns L.A.nr L.A.wk L.A.ca L.A.cm L.A.ch L.A.gb L.A.wt (fun i => if i = L.A.nd then x else L.A.dx i) (fun i => if i = L.A.nd then y else L.A.dy i) L.A.ask L.A.dr L.A.fr L.A.tt L.A.pa L.A.cd L.A.tr L.A.hf L.A.rs L.A.op L.A.nm L.A.dp) L.na L.tq L.tw L.tc
def PL.walk (L : PL) (w : Int) : PL := PL.mk_ (St.mk_ L.A.nq L.A.nd L.A.ns L.A.nr w L.A.ca L.A.cm L.A.ch L.A.gb L.A.wt L.A.dx L.A.dy L.A.ask L.A.dr L.A.fr L.A.tt L.A.pa L.A.cd L.A.tr L.A.hf L.A.rs L.A.op L.A.nm L.A.dp) L.na L.tq 1 L.tc
def PL.cards (L : PL) (a b : Int) : PL := PL.mk_ (St.mk_ L.A.nq L.A.nd L.A.ns L.A.nr L.A.wk a b L.A.ch L.A.gb L.A.wt L.A.dx L.A.dy L.A.ask L.A.dr L.A.fr L.A.tt L.A.pa L.A.cd L.A.tr L.A.hf L.A.rs L.A.op L.A.nm L.A.dp) L.na L.tq L.tw 1
def PL.empty : PL := PL.mk_ (St.mk_ 0 0 0 0 10 14 2 (fun _ => 0) (fun _ _ => -1) (fun _ _ _ _ => 0) (fun _ => 0) (fun _ => 0) (fun _ => 0) (fun _ => 0) (fun _ => 0) (fun _ => 0) (fun _ => 0) (fun _ => 0) (fun _ => 0) (fun _ => 0) (fun _ => 0) (fun _ => 0) (fun _ => 0) (fun _ _ => 0)) (fun _ => 0) (fun _ _ => 0) 0 0
/-- ends a part -/
abbrev sgnD (t : Int → Int) (n p : Nat) (c : Int) : Prop := kd t n p = 3 ∧ t p = c
def sEnd (t : Int → Int) (n : Nat) (L : PL) (p : Nat) : LRz := if sgnD t n p 59 then .inl (L, nxt t n p) else .inr (flt t n p 2, p)
def sNum (t : Int → Int) (n p : Nat) (lo hi : Int) (K : Int → Nat → LRz) : LRz := if kd t n p ≠ 2 then .inr (flt t n p 2, p) else if ¬ (lo ≤ nmv t n p ∧ nmv t n p ≤ hi) then .inr (flt t n p 4, p) else K (nmv t n p) (nxt t n p)
abbrev isnmD (w : Int) : Prop := w ≠ 0 ∧ w ≠ 6386539 ∧ w ≠ 7102839 ∧ w ≠ 1835626084 ∧ w ≠ 25209 ∧ w ≠ 1685024626 ∧ w ≠ 2002873451 ∧ w ≠ 426836649075
def sAsk (t : Int → Int) (n : Nat) (L : PL) (p : Nat) : LRz := if 6 ≤ L.A.nq then .inr (flt t n p 6, p) else if ¬ isnmD (wdv t n (nxt t n p)) then .inr (flt t n (nxt t n p) 2, nxt t n p) else if fnd L.na (wdv t n (nxt t n p)) L.A.nq.toNat 0 ≠ -1 then .inr (flt t n (nxt t n p) 3, nxt t n p) else sNum t n (nxt t n (nxt t n p)) 2 4 (fun c p3 => sEnd t n (L.addq (wdv t n (nxt t n p)) c) p3)
def sDoor (t : Int → Int) (n : Nat) (L : PL) (p : Nat) : LRz := if 16 ≤ L.A.nd then .inr (flt t n p 6, p) else sNum t n (nxt t n p) 0 99 (fun x p2 => sNum t n p2 0 99 (fun y p3 => sEnd t n (L.addd x y) p3))
def sWalk (t : Int → Int) (n : Nat) (L : PL) (p : Nat) : LRz := if L.tw ≠ 0 then .inr (flt t n p 5, p) else sNum t n (nxt t n p) 1 99 (fun x p2 => sEnd t n (L.walk x) p2)
def sCards (t : Int → Int) (n : Nat) (L : PL) (p : Nat) : LRz := if L.tc ≠ 0 then .inr (flt t n p 5, p) else sNum t n (nxt t n p) 0 16 (fun x p2 => sNum t n p2 0 16 (fun y p3 => sEnd t n (L.cards x y) p3))
/-- the weights of a table's rows, from row r, answer a on; k are left -/
def sWs (t : Int → Int) (n : Nat) (c : Int) (K : (Int → Int → Int) → Nat → LRz) : Nat → (Int → Int → Int) → Int → Int → Int → Nat → LRz
  | 0, w, _, _, _, p => if kd t n p = 2 then (if ¬ (0 ≤ nmv t n p ∧ nmv t n p ≤ 16) then .inr (flt t n p 4, p) else .inr (flt t n p 6, p)) else K w p
  | k + 1, w, r, a, s, p => if kd t n p ≠ 2 then (if sgnD t n p 59 ∧ 0 < r + a then .inr (flt t n p 7, p) else .inr (flt t n p 2, p)) else if ¬ (0 ≤ nmv t n p ∧ nmv t n p ≤ 16) then .inr (flt t n p 4, p) else if a + 1 = c then (if s + nmv t n p ≠ 16 then .inr (flt t n p 8, p) else sWs t n c K k (fun r2 a2 => if r2 = r ∧ a2 = a then nmv t n p else w r2 a2) (r + 1) 0 0 (nxt t n p)) else sWs t n c K k (fun r2 a2 => if r2 = r ∧ a2 = a then nmv t n p else w r2 a2) r (a + 1) (s + nmv t n p) (nxt t n p)
def sTab (t : Int → Int) (n : Nat) (m : Int) (L : PL) (p : Nat) : LRz :=
  if ¬ isnmD (wdv t n (nxt t n p)) then .inr (flt t n (nxt t n p) 2, nxt t n p)
  else if fnd L.na (wdv t n (nxt t n p)) L.A.nq.toNat 0 = -1 then .inr (flt t n (nxt t n p) 3, nxt t n p)
  else if L.tq m (fnd L.na (wdv t n (nxt t n p)) L.A.nq.toNat 0) ≠ 0 then .inr (flt t n (nxt t n p) 5, nxt t n p)
  else if wdv t n (nxt t n (nxt t n p)) = 25209 then
    (if ¬ isnmD (wdv t n (nxt t n (nxt t n (nxt t n p)))) then .inr (flt t n (nxt t n (nxt t n (nxt t n p))) 2, nxt t n (nxt t n (nxt t n p)))
    else if fnd L.na (wdv t n (nxt t n (nxt t n (nxt t n p)))) (fnd L.na (wdv t n (nxt t n p)) L.A.nq.toNat 0).toNat 0 = -1 then .inr (flt t n (nxt t n (nxt t n (nxt t n p))) 3, nxt t n (nxt t n (nxt t n p)))
    else sWs t n (L.A.ch (fnd L.na (wdv t n (nxt t n p)) L.A.nq.toNat 0)) (fun w p2 => sEnd t n (L.tab m (fnd L.na (wdv t n (nxt t n p)) L.A.nq.toNat 0) (fnd L.na (wdv t n (nxt t n (nxt t n (nxt t n p)))) (fnd L.na (wdv t n (nxt t n p)) L.A.nq.toNat 0).toNat 0) w) p2) (L.A.ch (fnd L.na (wdv t n (nxt t n (nxt t n (nxt t n p)))) (fnd L.na (wdv t n (nxt t n p)) L.A.nq.toNat 0).toNat 0) * L.A.ch (fnd L.na (wdv t n (nxt t n p)) L.A.nq.toNat 0)).toNat (fun _ _ => 0) 0 0 0 (nxt t n (nxt t n (nxt t n (nxt t n p)))))
  else sWs t n (L.A.ch (fnd L.na (wdv t n (nxt t n p)) L.A.nq.toNat 0)) (fun w p2 => sEnd t n (L.tab m (fnd L.na (wdv t n (nxt t n p)) L.A.nq.toNat 0) (-1) w) p2) (1 * L.A.ch (fnd L.na (wdv t n (nxt t n p)) L.A.nq.toNat 0)).toNat (fun _ _ => 0) 0 0 0 (nxt t n (nxt t n p))
def sPart (t : Int → Int) (n : Nat) (L : PL) (p : Nat) : LRz := if wdv t n p = 6386539 then sAsk t n L p else if wdv t n p = 7102839 then sTab t n 0 L p else if wdv t n p = 1835626084 then sTab t n 1 L p else if wdv t n p = 1685024626 then sDoor t n L p else if wdv t n p = 2002873451 then sWalk t n L p else if wdv t n p = 426836649075 then sCards t n L p else .inr (flt t n p 2, p)
def sLand (t : Int → Int) (n : Nat) : Nat → PL → Nat → Sum PL (Int × Int)
  | 0, L, _ => .inl L
  | k + 1, L, p => if kd t n p = 0 then .inl L else match sPart t n L p with
    | .inr f => .inr f
    | .inl (L2, p2) => sLand t n k L2 p2
/-- what holds of a land half read -/
def PL.Ok (L : PL) : Prop := (L.A.Ok) ∧ (L.A.ns = 0) ∧ (L.A.nr = 0) ∧ (∀ m q, bit1 m → L.A.nq ≤ q → q < 6 → L.A.gb m q = -1 ∧ L.tq m q = 0) ∧ (∀ m q, L.tq m q = 0 ∨ L.tq m q = 1) ∧ (∀ m q, bit1 m → inq L.A q → L.tq m q = 0 → L.A.gb m q = -1 ∧ ∀ a, L.A.wt m q 0 a = shq (L.A.ch q) a) ∧ (L.tw = 0 ∨ L.tw = 1) ∧ (L.tc = 0 ∨ L.tc = 1)
theorem PL.Ok.O {L : PL} (z_ : PL.Ok L) : L.A.Ok := z_.1
theorem PL.Ok.ns {L : PL} (z_ : PL.Ok L) : L.A.ns = 0 := z_.2.1
theorem PL.Ok.nr {L : PL} (z_ : PL.Ok L) : L.A.nr = 0 := z_.2.2.1
theorem PL.Ok.un {L : PL} (z_ : PL.Ok L) : ∀ m q, bit1 m → L.A.nq ≤ q → q < 6 → L.A.gb m q = -1 ∧ L.tq m q = 0 := z_.2.2.2.1
theorem PL.Ok.tb {L : PL} (z_ : PL.Ok L) : ∀ m q, L.tq m q = 0 ∨ L.tq m q = 1 := z_.2.2.2.2.1
theorem PL.Ok.ut {L : PL} (z_ : PL.Ok L) : ∀ m q, bit1 m → inq L.A q → L.tq m q = 0 → L.A.gb m q = -1 ∧ ∀ a, L.A.wt m q 0 a = shq (L.A.ch q) a := z_.2.2.2.2.2.1
theorem PL.Ok.wb {L : PL} (z_ : PL.Ok L) : L.tw = 0 ∨ L.tw = 1 := z_.2.2.2.2.2.2.1
theorem PL.Ok.cb {L : PL} (z_ : PL.Ok L) : L.tc = 0 ∨ L.tc = 1 := z_.2.2.2.2.2.2.2
