/-! THE CLAIM OUT OF ONE WALK OF THE LAW'S BODY. Your part is whole_start (and what it stands on); all else here is the same for every law, but numbers. -/
def R_law : String := "KitchenSheetsLaw"
def lw_P (b : Addr) (xs : List Int32) (args : Array Value) (s : State) : Prop := args = #[.ref b] ∧ s.IntsAt b xs ∧ xs.length ≤ 3072 ∧ (Jvm.Cond.and given_1 narrow_1).before args s = true
def lw_Q (_ : Array Value) (s : State) (o : Outcome) (t : State) : Prop := o = .returned (some (.int 1)) ∧ Framed s o t [] 600000 7302250
def lw_Z (below : List Frame) (a : Array Value) (s : State) : State → Prop := fun t => ∃ o, t.status = .running ∧ Ended t below o ∧ lw_Q a s o t
/-- the law's own end, with 1 on the stack, nothing written that was there before, its room as the claim has it -/
theorem lw_ret {p : Program} {l : Launch} {e : Env} {s : State} {m : MethodId} {below : List Frame} {meth : Method} {c : Code} {b : Nat} (hx : p.tables.exec = Jvm.exec) (hb : c.code = code) (hr : meth.sig.returnType = ret) (hlocks : meth.locks = false) {pc : Nat} {H : Heap} {ls : Array Slot} (hdg : decode code pc = .ok (.ireturn, 1)) : W p l e room_1 s m #[Value.ref b] below meth c H [] 600000 7302250 (lw_Z below #[Value.ref b] s) (F0 m pc ls [.int 1]) := by
  intro T hT X
  obtain ⟨fs, hret, hrun, hended, hW, hframe⟩ := X.leave (v := some (.int 1)) (hlocks := hlocks) (fun h => by rw [hr] at h; cases h)
  have hmeth' : T.vm.method? m = some meth := X.method'
  refine ⟨T.setFrames fs, ?_, .returned (some (.int 1)), hrun, hended, rfl, ⟨_, rfl⟩, hW, hframe⟩
  jvm_step X.here [X.here.top, hx, hb, hdg, hmeth', hr, ret, narrow_b1]
  (try refine ⟨rfl, ?_⟩); (try refine ⟨rfl, ?_⟩)
  first | (intro acts; rw [hret _ acts rfl rfl rfl]) | rw [hret _ _ rfl rfl rfl]
  exact Steps.refl _
/-- what holds at the law's entry: the machine, the code, the tables' words (any of lw_tbl by 'hts w (by decide +kernel)'), the script of L ints xs at the cell b, what the Statement gives of the start (any of its parts by flat_of_before) -/
def lw_At (p : Program) (s : State) (m : MethodId) (meth : Method) (c : Code) (b L : Nat) (xs : Nat → Int32) : Prop :=
  p.tables.exec = Jvm.exec ∧ c.code = code ∧ meth.sig.returnType = ret ∧ c.maxLocals = 4 ∧ s.vm.findClass R_law = some m.cls ∧ (∀ w ∈ lw_tbl, w.before #[Value.ref b] s = true) ∧ va_X b L xs s s.heap ∧ b < s.heap.size ∧ meth.locks = false ∧ (Jvm.Cond.and given_1 narrow_1).before #[Value.ref b] s = true
-- ===== YOUR PART BEGINS =====
theorem g0_ok {xs : Nat → Int32} {Ln : Nat} (hL : Ln ≤ 3072) : okW xs Ln (gz_ Ln) (hz_ xs) := by
  refine ⟨Int.le_refl _, fun a ha => Or.inl ?_, fun a h0 h1 => ?_, rfl, rfl, fun j hj => rfl, by omega⟩
  · have ha : (0 : Int) ≤ if a = -4 then 20 else -1 := ha
    by_cases q : a = -4
    · exact q
    · rw [if_neg q] at ha; omega
  · have h1 : a < 0 := h1
    omega
theorem va_arr {t : FieldType} {args : Array Value} {s : State} (ht : ∀ C, t ≠ .object C) (h : (Cond.arrayClass t).before args s = true) : ∃ cA : ClassId, ArrOfT s cA t ∧ va_RA s cA t := by
  obtain ⟨c, k, comp, h1, h2, h3⟩ := Cond.arrayClass_spec h
  refine ⟨c, fun n z => ⟨fun k h => (by cases h), k, h2, comp, h3⟩, ?_⟩
  cases t with
  | object C => exact absurd rfl (ht C)
  | _ => exact h1
theorem va_arrO {C : String} {args : Array Value} {s : State} (h : (Cond.arrayOver (.object C)).before args s = true) : ∃ cA : ClassId, ArrOfT s cA (.object C) ∧ va_RA s cA (.object C) := by
  obtain ⟨comp, c, k, h1, h2, h3, h4, h5⟩ := Cond.arrayOver_spec h
  exact ⟨c, fun n z => ⟨fun k h => (by cases h), k, h3, comp, h4⟩, k, comp, h3, h4, h1, h5⟩
def txT (i : Nat) : Term := .string RX12 (if i = 0 then 164 else 229)
theorem tx_c1 : ∀ i, i < 2 → txLen.getD i 0 < 2 ^ 31 ∧ Cond.exactly (txT i) "java/lang/String" ∈ flatC (Jvm.Cond.and given_1 narrow_1) ∧ Cond.eq (.field (txT i) "java/lang/String" "coder" "B") (.int 0) ∈ flatC (Jvm.Cond.and given_1 narrow_1) ∧ Cond.arrayOf (.field (txT i) "java/lang/String" "value" "[B") .byte ∈ flatC (Jvm.Cond.and given_1 narrow_1) ∧ Cond.eq (.length (.field (txT i) "java/lang/String" "value" "[B")) (.int (Int32.ofNat (txLen.getD i 0))) ∈ flatC (Jvm.Cond.and given_1 narrow_1) := by decide +kernel
theorem tx_c2 : ∀ i, i < 2 → ∀ j, j < txLen.getD i 0 → Cond.eq (.elem (.field (txT i) "java/lang/String" "value" "[B") (.int (Int32.ofNat j))) (.int ((txByt.getD i []).getD j 0)) ∈ flatC (Jvm.Cond.and given_1 narrow_1) := by decide +kernel
theorem tx_c3 : ∀ i j : Nat, i < 2 → j < 2 → i ≠ j → Cond.not (Cond.eq (txT i) (txT j)) ∈ flatC (Jvm.Cond.and given_1 narrow_1) ∨ Cond.not (Cond.eq (txT j) (txT i)) ∈ flatC (Jvm.Cond.and given_1 narrow_1) := by
  intro i j hi hj hij
  have : (i = 0 ∧ j = 1) ∨ (i = 1 ∧ j = 0) := by omega
  rcases this with ⟨rfl, rfl⟩ | ⟨rfl, rfl⟩
  · exact Or.inl (by decide +kernel)
  · exact Or.inr (by decide +kernel)
theorem tx_c4 : Cond.eq (.static RJ0 "COMPACT_STRINGS" "Z") (.int 1) ∈ flatC (Jvm.Cond.and given_1 narrow_1) ∧ Cond.isRef (.static RJ3 "SIOOBE_FORMATTER" "Ljava/util/function/BiFunction;") ∈ flatC (Jvm.Cond.and given_1 narrow_1) := by decide +kernel
theorem tx_c5 : Cond.laysStatic RJ0 "COMPACT_STRINGS" "Z" ∈ lw_tbl ∧ Cond.laysStatic RJ3 "SIOOBE_FORMATTER" "Ljava/util/function/BiFunction;" ∈ lw_tbl ∧ Cond.stringRef RX12 164 " ask law mind by door walk cards " ∈ lw_tbl ∧ Cond.stringRef RX12 229 " flag or and not same short late rare made card amiss " ∈ lw_tbl := by decide +kernel
theorem k_law : mcode 266 = code ∧ mloc 266 = 4 ∧ cnm (mcls 266) = R_law ∧ mret 266 = 2 ∧ minit 266 = false ∧ ret = some .boolean := ⟨rfl, rfl, rfl, rfl, rfl, rfl⟩
theorem lw_fr {p : Program} {s : State} {m : MethodId} {meth : Method} {c : Code} {b L : Nat} {xs : Nat → Int32} (hL : L ≤ 3072) (C0 : lw_At p s m meth c b L xs) : ∃ (D : va_G) (dA : Nat → ClassId) (t0 t1 : Nat), Fr p room_1 s m #[Value.ref b] meth c D dA (fun q => s.heap.size ≤ q) b t0 t1 xs L 266 2000 := by
  obtain ⟨hx, hb, hr, hml, hown, hts, hX, hbl, hlocks, hgv⟩ := C0
  obtain ⟨k1, k2, k3, k4, k5, k6⟩ := k_law
  have hN := flat_of_before _ hgv
  have hA : ∀ a : Nat, a < s.heap.size → ¬ (fun q => s.heap.size ≤ q) a := fun a h => Nat.not_le.mpr h
  have hD : ∀ i : Nat, ∃ q : ClassId × (Nat → Nat), i < 13 → u_Kn s (vwC.getD i (RX0, TX0, 3)).1 (vwC.getD i (RX0, TX0, 3)).2.1 (vwC.getD i (RX0, TX0, 3)).2.2 q.1 q.2 := by
    intro i
    by_cases hi : i < 13
    · obtain ⟨r, e1, e2, e3, e4⟩ := tb_cls i hi
      have e5 : vwC.getD i (RX0, TX0, 3) = r := by rw [List.getD_eq_getElem?_getD, e1]; rfl
      rw [e5]
      obtain ⟨cC, iS, h⟩ := u_known (C := r.1) (T := r.2.1) (N := r.2.2) (n := nfl i) hts (fun w hw => tb_ws i hi r e1 w hw) (by rw [e2]; exact hts _ (List.mem_of_getElem? (tb_inst i hi)))
      exact ⟨(cC, iS), fun _ => h⟩
    · exact ⟨(0, fun _ => 0), fun h => absurd h hi⟩
  obtain ⟨D, hD⟩ := Classical.axiomOfChoice hD
  obtain ⟨a0, A0⟩ := va_arr (by intro C; exact fun h => by cases h) (hts _ (List.mem_of_getElem? tb_ac.1))
  obtain ⟨a1, A1⟩ := va_arr (by intro C; exact fun h => by cases h) (hts _ (List.mem_of_getElem? tb_ac.2.1))
  obtain ⟨a2, A2⟩ := va_arr (by intro C; exact fun h => by cases h) (hts _ (List.mem_of_getElem? tb_ac.2.2.1))
  obtain ⟨a3, A3⟩ := va_arr (by intro C; exact fun h => by cases h) (hts _ (List.mem_of_getElem? tb_ac.2.2.2))
  obtain ⟨a4, A4⟩ := va_arrO (hts _ (List.mem_of_getElem? tb_ao.1))
  obtain ⟨a5, A5⟩ := va_arrO (hts _ (List.mem_of_getElem? tb_ao.2))
  obtain ⟨adK, adV, hS, hE⟩ := vk_Sof (args := #[Value.ref b]) (s := s) (N := 2) (tm := txT) (len := txLen) (byt := txByt) (A := fun q => s.heap.size ≤ q) (fun i hi => (tx_c1 i hi).1) (fun i hi => hN _ (tx_c1 i hi).2.1) (fun i hi => hN _ (tx_c1 i hi).2.2.1) (fun i hi => hN _ (tx_c1 i hi).2.2.2.1) (fun i hi => hN _ (tx_c1 i hi).2.2.2.2) (fun i hi j hj => hN _ (tx_c2 i hi j hj)) (fun i j hi hj hij => (tx_c3 i j hi hj hij).imp (hN _) (hN _)) hA
  have eK : ∀ i, i < 2 → adK i = if i = 0 then adK 0 else adK 1 := by
    intro i hi
    have : i = 0 ∨ i = 1 := by omega
    rcases this with rfl | rfl <;> rfl
  refine ⟨(fun i => (D i).1, fun i => (D i).2), fun i => [a0, a1, a2, a3, a4, a5].getD i 0, adK 0, adK 1, hx, by rw [k1]; exact hb, by rw [k2]; exact hml, by rw [k3]; exact hown, fun h => by rw [k5] at h; exact (by cases h), fun w hw => hts w (List.mem_filter.mp hw).1, ⟨fun i q hq => ?_, fun i q hq => ?_⟩, fun q h => h, ?_, by decide, by decide⟩
  · have hi : i < 13 := (List.getElem?_eq_some_iff.mp hq).1
    have h := hD i hi
    rw [List.getD_eq_getElem?_getD, hq] at h
    exact h
  · have hi : i < 6 := (List.getElem?_eq_some_iff.mp hq).1
    have : i = 0 ∨ i = 1 ∨ i = 2 ∨ i = 3 ∨ i = 4 ∨ i = 5 := by omega
    rcases this with rfl | rfl | rfl | rfl | rfl | rfl <;> cases hq
    · exact A0
    · exact A1
    · exact A2
    · exact A3
    · exact A4
    · exact A5
  · refine ⟨hX, hbl, Nat.not_le.mpr hbl, ⟨?_, ?_⟩, ⟨?_, ?_⟩, adV, ⟨fun i hi => ?_, fun i j hi hj e => ?_⟩, va_AO.of (hts _ (List.mem_of_getElem? tb_ao.1)), va_AO.of (hts _ (List.mem_of_getElem? tb_ao.2)), va_Zof (hts _ tx_c5.1) (hts _ (List.mem_filter.mp jn_RJ0).1) (va_eqt (hN _ tx_c4.1)) hA, va_Zqof (hts _ tx_c5.2.1) (hts _ (List.mem_filter.mp jn_RJ3).1) (hN _ tx_c4.2) hA, fun e he h0 => ?_⟩
    · exact hts _ tx_c5.2.2.1
    · exact hE 0 (by decide)
    · exact hts _ tx_c5.2.2.2
    · exact hE 1 (by decide)
    · have h := hS.1 i hi
      rw [eK i hi] at h
      exact h
    · exact hS.2 i j hi hj (by rw [eK i hi, eK j hj]; exact e)
    · have h := hts _ (List.mem_of_getElem? (tb_mth e he))
      rw [if_neg h0] at h
      exact va_Nw.of rfl h
/-- YOUR PART: from the entry, for every script of at most 3072 ints, the law comes to its end with true ('hflags': the launch's flags, for a law that throws: no stack traces) -/
theorem whole_start {p : Program} {e : Env} {s : State} {m : MethodId} {below : List Frame} {meth : Method} {c : Code} (l : Launch) (hflags : l.flags = flags0) {b L : Nat} {xs : Nat → Int32} (hL : L ≤ 3072) (C0 : lw_At p s m meth c b L xs) : W p l e room_1 s m #[Value.ref b] below meth c s.heap [] 0 0 (lw_Z below #[Value.ref b] s) (entryFrame m ([Value.ref b] : List Value).toArray 4) := by
  obtain ⟨D, dA, t0, t1, F⟩ := lw_fr hL C0
  obtain ⟨f, r, g1, h1, hx, rfl, hc, hs⟩ := law_am (xs := xs) hL
  obtain ⟨-, hb, hr, hml, -, -, -, hbl, hlocks, -⟩ := C0
  obtain ⟨k1, k2, k3, k4, k5, k6⟩ := k_law
  have hW := g0_ok (xs := xs) hL
  rw [lg_entry_eq]
  let ad : Int → Nat := fun a => if a = -4 then b else if a = -2 then t0 else if a = -3 then t1 else 0
  have hu : ∀ v ∈ [xR (-4)], v ≠ xU := by intro v hv; rw [List.mem_singleton.mp hv]; exact fun h => by cases h
  have hlay : (lay [xR (-4)]).length ≤ mloc 266 := by rw [k2]; decide
  have hl := lvr_entry (ad := ad) hu hlay
  have hll : (mkl [xR (-4)] (mloc 266)).length = mloc 266 := by rw [k2]; rfl
  have S := sound f 2000 266 0 (mkl [xR (-4)] (mloc 266)) [] (gz_ L) (hz_ xs) (some (xI 1)) g1 h1 hx (p := p) (l := l) (e := e) (R := room_1) (s := s) (m := m) (args := #[Value.ref b]) (below := below) (meth := meth) (c := c) (Q := lw_Z below #[Value.ref b] s) (ad0 := ad) (n0 := 0) (cb := 0) (sb := 0) F (by show gC g1 - 0 ≤ ((600000 : Nat) : Int); omega) (by show gS g1 - 0 ≤ ((7302250 : Nat) : Int); omega) ?_
  · have K := S ad s.heap [] 0 0 _ hW (fun v hv => by cases hv) (fun v hv => ?_) hll hl ⟨rfl, rfl, rfl⟩ ⟨Int.le_refl _, Int.le_refl _, fun _ _ _ => rfl⟩ (fun k q hq => (by cases hq)) ⟨fun i j p q hp hq => (by cases hp), fun k q hq => (by cases hq)⟩ va_S.rf rfl rfl
    · rw [k2] at K
      exact K
    · rw [k2] at hv
      have : v = xR (-4) ∨ v = xU := by
        have hv : v ∈ [xR (-4), xU, xU, xU] := hv
        simp only [List.mem_cons, List.not_mem_nil, or_false] at hv
        rcases hv with h | h | h | h
        · exact Or.inl h
        · exact Or.inr h
        · exact Or.inr h
        · exact Or.inr h
      rcases this with rfl | rfl
      · exact Or.inr (Or.inl ⟨by decide, by decide⟩)
      · exact Or.inl rfl
  · intro ad2 H locs cells slots Ls pc1 ri e1 e2 e3 e4 e5 e6 e7 e8 e9 e10 e11
    have hri : ri = .ireturn := by
      unfold rets at e1
      split at e1
      · rfl
      · cases e1
      · cases e1
      · cases e1
    subst hri
    rw [k1] at e2
    refine va_forget (fun q hq => e8.2.2 q hq) (W.widen (k := 600000) (n := 7302250) (by omega) (by omega) (lw_ret F.1 hb hr hlocks e2))
-- ===== YOUR PART ENDS =====
set_option maxHeartbeats 4000000 in
theorem lw_walk (l : Launch) (hflags : l.flags = flags0) (b : Addr) (xs : List Int32) : MetFree l x (headSpec (Jvm.Cond.code x code maxLocals ret :: tables_1) room_1) (lw_P b xs) (fun _ _ _ _ _ => True) lw_Q := by
  refine MetFree.of_bodyS (code := code) (maxLocals := maxLocals) (ret := ret) (by decide) ?_ ?_
  · intro args s m h hn
    obtain ⟨meth, c, h1, h2, h3, h4, h5, h6, -, -⟩ := Cond.code_spec hn (atoms_spec (ws := Jvm.Cond.code x code maxLocals ret :: tables_1) h _ List.mem_cons_self)
    exact ⟨meth, c, h1, h2, h3, h4, h5, h6⟩
  · intro p e s m args below meth c s₁ B hml0 hP _
    obtain ⟨rfl, hx, hbd, hgv⟩ := hP
    obtain ⟨scr, harrAt, hlist, hof, hsmall⟩ := hx
    obtain ⟨hcb, hkn, -, -⟩ := State.arrayAt?_spec harrAt
    have hown : s.vm.findClass R_law = some m.cls := findClass_of_methodNamed B.named
    have hts0 : ∀ c ∈ (Jvm.Cond.code x code maxLocals ret :: tables_1), c.before #[Value.ref b] s = true := atoms_spec (ws := Jvm.Cond.code x code maxLocals ret :: tables_1) B.pre
    have hts : ∀ w ∈ lw_tbl, w.before #[Value.ref b] s = true := k2_hts_sels lw_privs (fun w hw => hts0 w (List.mem_cons_of_mem _ hw)) lw_privs_ok
    have hml : c.maxLocals = 4 := B.maxLocals_eq (hts0 _ List.mem_cons_self)
    have X₀ : Stand p l e room_1 s m #[Value.ref b] below meth c s₁ [] 0 0 := Stand.of_body B
    have hh0 : s₁.heap = s.heap := by rw [B.state]; rfl
    have hsz : scr.slots.size = xs.length := by rw [← Array.length_toList, hlist, List.length_map]
    have hval : ∀ j : Nat, j < xs.length → scr.slots[j]? = some (.int (xs.getD j 0)) := fun j hj => by
      rw [← Array.getElem?_toList, hlist]
      simp [hj]
    have hbl : b < s.heap.size := (Array.getElem?_eq_some_iff.mp hcb).1
    have hX : va_X b xs.length (fun j => xs.getD j 0) s s.heap := ⟨scr, hcb, hof, hkn, hsz, hval⟩
    have K : W p l e room_1 s m #[Value.ref b] below meth c s₁.heap [] 0 0 (lw_Z below #[Value.ref b] s) (entryFrame m ([Value.ref b] : List Value).toArray 4) := by
      rw [hh0]
      exact whole_start l hflags hbd ⟨B.exec, B.bytes, B.returns, hml, hown, hts, hX, hbl, B.notSynchronized, hgv⟩
    obtain ⟨t, a1, o, b1, b2, b3⟩ := K s₁ rfl X₀
    exact ⟨t, o, a1, b1, b2, b3⟩
theorem lw_pre_spec {args : Array Value} {s : State} (h : (Jvm.Cond.and given_1 narrow_1).before args s = true) (hr : rest_1_c.before args s = true) : ∃ (b : Addr) (xs : List Int32), lw_P b xs args s := by
  have hs := flat_of_before _ h
  have hq := flat_of_before _ hr
  have hc : (Cond.count 1).before args s = true := hs _ (by decide +kernel)
  have harr : (Cond.arrayOf (.arg 0) .int).before args s = true := hs _ (by decide +kernel)
  have hle : (Cond.le (.length (.arg 0)) (.int 3072)).before args s = true := hs _ (by decide +kernel)
  have hlen : (Cond.isInt (.length (.arg 0))).before args s = true := hq _ (by decide +kernel)
  have hall : (Cond.all (.arg 0) (.isInt (.elem (.arg 0) (.index 0)))).before args s = true := hq _ (by decide +kernel)
  obtain ⟨b, xs, hb, hx⟩ := State.ints_of_pre rfl harr hlen hall
  have hsm : xs.length < 2 ^ 31 := hx.choose_spec.2.2.2
  have hev : (Term.length (.arg 0)).eval args s none [] s = some (.int xs.length.toInt32) := hx.length_eval hb
  have hv := Cond.le_ints hev (show (Term.int 3072).eval args s none [] s = some (.int 3072) from rfl)
  have hd : xs.length.toInt32 ≤ 3072 := by
    simpa [Cond.before, Cond.holds, hv] using hle
  have hN : xs.length ≤ 3072 := (Int32.ofNat_le_ofNat hsm (by decide)).mp (show Int32.ofNat xs.length ≤ Int32.ofNat 3072 from hd)
  exact ⟨b, xs, Cond.one_arg hc (show args[0]? = some (.ref b) from hb), hx, hN, h⟩
theorem lw_comes (l : Launch) (hflags : l.flags = flags0) : Comes l x (Jvm.Cond.code x code maxLocals ret :: tables_1) room_1 (fun tb e args s => Calls_1 tb e args s ∧ rest_1 tb e args s ∧ Pre_1 tb e args s)
    (fun _ _ args s o t => lw_Q args s o t) := by
  intro p e ha hc hk s m args below hf hfit hheap happ hpre
  obtain ⟨b, xs, hP⟩ := lw_pre_spec hpre.2.2 hpre.2.1
  obtain ⟨k, o, h1, h2, h3, hQ⟩ := lw_walk l hflags b xs p e ha hc hk s m args below hf ((Spec.applies_iff_loose hf).mp happ).1 hP trivial
  exact ⟨k, o, h1, h2, h3, hQ⟩
theorem lw_frame {s t : State} {o : Outcome} {args : Array Value} (h : Framed s o t [] 600000 7302250) :
    Framed s o t (fieldLocs frame_1_writes args s ++ arrayLocs frame_1_arrays args s ++ staticLocs frame_1_statics s) 600000 7302250 := h
theorem lw_limb (L : Cond) (hL : ∀ (args : Array Value) (s t : State), L.after args s (.returned (some (.int 1))) t = true) :
    ArmFor flags0 classFile x code maxLocals ret World_1 tables_1 room_1 Calls_1 rest_1 Pre_1
      (fun tb e a s o t => postC L tb e a s o t ∧ Framed s o t (fieldLocs frame_1_writes a s ++ arrayLocs frame_1_arrays a s ++ staticLocs frame_1_statics s) 600000 7302250) := by
  intro l hflags _ _ p e ha hc hk s m args below hf hfit hheap happ hpre
  obtain ⟨k, o, h1, h2, h3, rfl, hF⟩ := lw_comes l hflags p e ha hc hk s m args below hf hfit hheap happ hpre
  exact ⟨k, _, h1, h2, h3, hL args s _, lw_frame hF⟩
theorem i_vc : Claimed_1_1 ∧ Claimed_1_2 := ⟨lw_limb limb_1_1 (fun args s t => by simp [limb_1_1, Cond.after, Cond.holds, Cond.value]), lw_limb limb_1_2 (fun args s t => Cond.after_iff.mpr (by
  first | (rw [show limb_1_2 = Cond.eq .result (.int 1) from rfl, Cond.eq_ints (x := 1) (y := 1) rfl rfl]; simp; done) | (simp [limb_1_2, Cond.value, Term.eval]; done)))⟩
