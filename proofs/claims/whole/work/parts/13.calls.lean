/-! CALLS, and the whole: what the abstract machine does, the real one does. -/
def rmm (d mc ms : Nat) : Room := { frames := d + 8, cells := mc, slots := ms, locals := 41 * d + 400 }
def wsk (k : Nat) : List Cond := Cond.code (mnm k) (mcode k) (mloc k) (retT (mret k)) :: lgd
theorem lgd_good {w : Cond} (h : w ∈ lgd) : (w.onTables && w.keeps) = true ∨ ∃ ty, w = .arrayClass ty := good_of_word (List.mem_filter.mp h).2
theorem wsk_in {k : Nat} (hk : k < 266) : GoodIn lgd (wsk k) := by
  intro w hw
  rcases List.mem_cons.mp hw with rfl | hw
  · have h := lg (tb_code k hk) rfl
    exact ⟨h, lgd_good h⟩
  · exact ⟨hw, lgd_good hw⟩
theorem XT.move {b t0 t1 : Nat} {A B : Nat → Prop} {xs : Nat → Int32} {Ln : Nat} {s U : State} {H : Heap} {locs : List Loc} (h : XT b t0 t1 A xs Ln s) (hS : va_S A s.heap H locs) (hU : U.heap = H) (hW : s.WarmedH U.vm) (hAB : ∀ q, B q → A q) : XT b t0 t1 B xs Ln U := by
  obtain ⟨x1, x2, x3, x4, x5, adV, x6, x7, x8, x9, x10, x11⟩ := h
  have hk : ∀ a : Nat, a < s.heap.size → ¬ A a → U.heap[a]? = s.heap[a]? := fun a h1 h2 => by rw [hU]; exact hS.2.1 a h1 h2
  have hal := hW.alike
  exact ⟨(x1.kept (hk b x2 x3)).moved hal, Nat.lt_of_lt_of_le x2 (by rw [hU]; exact hS.1), fun q => x3 (hAB _ q), x4.warm hW, x5.warm hW, adV, ((x6.kept hk).moved hal).narrow hAB, x7.moved hal, x8.moved hal, ((x9.kept hk).moved hal).narrow hAB, ((x10.kept hk).moved hal).narrow hAB, fun e he h0 => (x11 e he h0).warmM hW⟩
theorem tx_of {a : Int} (ha : a = -2 ∨ a = -3) : ∃ i, i < 2 ∧ (∀ ad : Int → Nat, ad a = if i = 0 then ad (-2) else ad (-3)) ∧ txLen.getD i 0 = (sby a).length ∧ (sby a).length < 100 ∧ (∀ j, j < (sby a).length → (txByt.getD i []).getD j 0 = Int32.ofInt ((sby a).getD j 0) ∧ 0 ≤ (sby a).getD j 0 ∧ (sby a).getD j 0 < 256) := by
  rcases ha with rfl | rfl
  · exact ⟨0, by decide, fun ad => rfl, by decide +kernel, by decide +kernel, by decide +kernel⟩
  · exact ⟨1, by decide, fun ad => rfl, by decide +kernel, by decide +kernel, by decide +kernel⟩
theorem XT.tx {b t0 t1 : Nat} {A : Nat → Prop} {xs : Nat → Int32} {Ln : Nat} {s U : State} {H : Heap} {locs : List Loc} (h : XT b t0 t1 A xs Ln s) (hS : va_S A s.heap H locs) (hU : U.heap = H) (hW : s.WarmedH U.vm) : TXS t0 t1 U := by
  obtain ⟨-, -, -, -, -, adV, x6, -, -, x9, x10, -⟩ := XT.move (B := fun _ => False) h hS hU hW (fun _ q => q.elim)
  exact ⟨⟨adV, x6⟩, x9, x10⟩
theorem sw_slen {p : Program} {l : Launch} {e : Env} {R : Room} {s : State} {m : MethodId} {args : Array Value} {below : List Frame} {meth : Method} {c : Code} {Q : State → Prop} {D : va_G} {dA : Nat → ClassId} {A : Nat → Prop} {b t0 t1 : Nat} {ad0 : Int → Nat} {n0 cb sb : Int} {xs : Nat → Int32} {Ln : Nat} {k d pc nx : Nat} {ls st : List KV} {g : KG} {h : KH} (F : Fr p R s m args meth c D dA A b t0 t1 xs Ln k d) {i : Nat} {a : Int} (hi : At_ k pc (.invokevirtual i) nx) (hit : itr (mcls k) i = some 5) (hw : ((xR a :: st).map catN).sum ≤ 8) (ha : a = -2 ∨ a = -3) (hcb : gC g - cb ≤ R.cells) (hsb : gS g - sb ≤ R.slots) (hN : SW p l e R s m args below meth c Q D dA A b t0 t1 ad0 n0 cb sb xs Ln k nx ls (xI ((sby a).length : Nat) :: st) g h) : SW p l e R s m args below meth c Q D dA A b t0 t1 ad0 n0 cb sb xs Ln k pc ls (xR a :: st) g h := by
  obtain ⟨n1, hd, rfl, hln⟩ := hi
  have hln : n1 = 3 := by simpa [fln] using hln
  subst hln
  have hx := F.1
  have hb := F.2.1
  intro ad H locs cells slots L hW hst hls hlen hlv had hn hP hD hS hc hs2
  have hts := F.2.2.2.2.2.1
  have hX := F.2.2.2.2.2.2.2.2.1
  have hR1 := F.2.2.2.2.2.2.2.2.2.1
  have hR2 := F.2.2.2.2.2.2.2.2.2.2
  obtain ⟨i2, hi2, ea, el, e100, eb⟩ := tx_of ha
  have ea := ea ad
  rw [had.2.1, had.2.2] at ea
  have hS5 : CallFix p m c (mcode k) L.size s args lgd (cnm (mcls k)) := ⟨hx, hb, by rw [hlv.1, F.2.2.1], F.2.2.2.1, hts⟩
  have hrec : ∃ cell : Cell, H[(if i2 = 0 then t0 else t1)]? = some cell ∧ cell.vm.isStatics = false ∧ s.vm.findClass RJ0 = some cell.cls := by
    obtain ⟨-, -, -, -, -, adV, x6, -⟩ := hX
    have z := vk_recv x6 hi2 hS
    exact z
  have hv : in32 (((sby a).length : Nat) : Int) := by unfold in32; omega
  have K := hN ad H locs cells slots L hW (okV_cons (v := xI _) hv (okV_tl hst)) hls hlen hlv had hn hP hD hS hc hs2
  have hw2 : ((st.map (rv ad)).map fun v => v.category).sum ≤ 8 := by
    rw [cat_sum]
    simp only [List.map_cons, List.sum_cons] at hw
    omega
  rw [List.map_cons, rv_ref (by omega), ea]
  refine vp_callSi (W.runV (As := []) (rest := st.map (rv ad)) hS5 (jm_length l t0 t1 i2 hi2) (cwV 0 hts (fun w hw => by
      unfold wsV at hw
      rcases List.mem_append.mp hw with hw | hw
      · rcases List.mem_cons.mp hw with rfl | hw
        · exact ⟨lg (itr_in hit) rfl, good_of_word (List.mem_filter.mp (lg (itr_in hit) rfl)).2⟩
        · rcases List.mem_cons.mp hw with rfl | hw
          · exact ⟨ji_length, good_of_word (List.mem_filter.mp ji_length).2⟩
          · rcases List.mem_cons.mp hw with rfl | hw
            · exact ⟨jse_length, good_of_word (List.mem_filter.mp jse_length).2⟩
            · rcases List.mem_cons.mp hw with rfl | hw
              · exact ⟨jn_RJ0, good_of_word (List.mem_filter.mp jn_RJ0).2⟩
              · cases hw
      · exact jg_length w hw) rfl rfl rfl (by decide +kernel) ⟨by show 2 + 1 ≤ _; omega, by show 8 + (_ + 11) + 30 * 2 ≤ _; omega⟩) ⟨TXS.blind, hrec, fun U hU hW => ⟨rfl, hX.tx hS hU hW⟩⟩ rfl rfl rfl rfl (by show 2 * 0 + _ ≤ 8; omega) hd ⟨by omega, by omega⟩) (fun r hr0 => ?_)
  have er : r = Int32.ofInt (((sby a).length : Nat) : Int) := by
    rw [hr0, el, o32_nat hv (by omega)]
    rfl
  rw [er]
  exact K
theorem sw_char {p : Program} {l : Launch} {e : Env} {R : Room} {s : State} {m : MethodId} {args : Array Value} {below : List Frame} {meth : Method} {c : Code} {Q : State → Prop} {D : va_G} {dA : Nat → ClassId} {A : Nat → Prop} {b t0 t1 : Nat} {ad0 : Int → Nat} {n0 cb sb : Int} {xs : Nat → Int32} {Ln : Nat} {k d pc nx : Nat} {ls st : List KV} {g : KG} {h : KH} (F : Fr p R s m args meth c D dA A b t0 t1 xs Ln k d) {i : Nat} {a j : Int} (hi : At_ k pc (.invokevirtual i) nx) (hit : itr (mcls k) i = some 6) (hw : ((xI j :: xR a :: st).map catN).sum ≤ 8) (ha : a = -2 ∨ a = -3) (h0 : 0 ≤ j) (h1 : j < ((sby a).length : Nat)) (hcb : gC g - cb ≤ R.cells) (hsb : gS g - sb ≤ R.slots) (hN : SW p l e R s m args below meth c Q D dA A b t0 t1 ad0 n0 cb sb xs Ln k nx ls (xI ((sby a).getD j.toNat 0) :: st) g h) : SW p l e R s m args below meth c Q D dA A b t0 t1 ad0 n0 cb sb xs Ln k pc ls (xI j :: xR a :: st) g h := by
  obtain ⟨n1, hd, rfl, hln⟩ := hi
  have hln : n1 = 3 := by simpa [fln] using hln
  subst hln
  have hx := F.1
  have hb := F.2.1
  intro ad H locs cells slots L hW hst hls hlen hlv had hn hP hD hS hc hs2
  have hts := F.2.2.2.2.2.1
  have hX := F.2.2.2.2.2.2.2.2.1
  have hR1 := F.2.2.2.2.2.2.2.2.2.1
  have hR2 := F.2.2.2.2.2.2.2.2.2.2
  obtain ⟨i2, hi2, ea, el, e100, eb⟩ := tx_of ha
  have ea := ea ad
  rw [had.2.1, had.2.2] at ea
  have hS5 : CallFix p m c (mcode k) L.size s args lgd (cnm (mcls k)) := ⟨hx, hb, by rw [hlv.1, F.2.2.1], F.2.2.2.1, hts⟩
  have hrec : ∃ cell : Cell, H[(if i2 = 0 then t0 else t1)]? = some cell ∧ cell.vm.isStatics = false ∧ s.vm.findClass RJ0 = some cell.cls := by
    obtain ⟨-, -, -, -, -, adV, x6, -⟩ := hX
    have z := vk_recv x6 hi2 hS
    exact z
  obtain ⟨eb1, eb2, eb3⟩ := eb j.toNat (by omega)
  have hj : in32 j := okV_hd hst
  have hv : in32 ((sby a).getD j.toNat 0) := by unfold in32; omega
  have K := hN ad H locs cells slots L hW (okV_cons (v := xI _) hv (okV_tl (okV_tl hst))) hls hlen hlv had hn hP hD hS hc hs2
  have hw2 : ((st.map (rv ad)).map fun v => v.category).sum ≤ 8 := by
    rw [cat_sum]
    simp only [List.map_cons, List.sum_cons] at hw
    omega
  rw [List.map_cons, List.map_cons, rv_ref (by omega), ea]
  have ej : rv ad (xI j) = .int (nI j.toNat) := by show Value.int (Int32.ofInt j) = _; rw [o32_nat hj h0]
  rw [ej]
  refine vp_callSi (W.runV (As := [.int (nI j.toNat)]) (rest := st.map (rv ad)) hS5 (jm_charAt l t0 t1 i2 j.toNat hi2 (by omega)) (cwV 1 hts (fun w hw => by
      unfold wsV at hw
      rcases List.mem_append.mp hw with hw | hw
      · rcases List.mem_cons.mp hw with rfl | hw
        · exact ⟨lg (itr_in hit) rfl, good_of_word (List.mem_filter.mp (lg (itr_in hit) rfl)).2⟩
        · rcases List.mem_cons.mp hw with rfl | hw
          · exact ⟨ji_charAt, good_of_word (List.mem_filter.mp ji_charAt).2⟩
          · rcases List.mem_cons.mp hw with rfl | hw
            · exact ⟨jse_charAt, good_of_word (List.mem_filter.mp jse_charAt).2⟩
            · rcases List.mem_cons.mp hw with rfl | hw
              · exact ⟨jn_RJ0, good_of_word (List.mem_filter.mp jn_RJ0).2⟩
              · cases hw
      · exact jg_charAt w hw) rfl rfl rfl (by decide +kernel) ⟨by show 4 + 1 ≤ _; omega, by show 8 + (_ + 11) + 30 * 4 ≤ _; omega⟩) ⟨TXS.blind, hrec, fun U hU hW => ⟨rfl, hX.tx hS hU hW⟩⟩ rfl rfl rfl rfl (by show 2 * 0 + _ ≤ 8; omega) hd ⟨by omega, by omega⟩) (fun r hr0 => ?_)
  have er : r = Int32.ofInt ((sby a).getD j.toNat 0) := by rw [hr0, eb1]
  rw [er]
  exact K
def CPc (D : va_G) (dA : Nat → ClassId) (b t0 t1 : Nat) (xs : Nat → Int32) (Ln : Nat) (as : List KV) (g : KG) (h : KH) (ad : Int → Nat) (sz : Nat) : Array Value → State → Prop := fun v U =>
  v = (as.map (rv ad)).toArray ∧ U.heap.size = sz ∧ va_P D vwC (wl dA ad g h) U.heap ∧ va_K D vwC (tysA dA) U ∧ va_D (fun _ => True) (wl dA ad g h) ∧ XT b t0 t1 (va_A (wl dA ad g h) sz) xs Ln U
def CQc (D : va_G) (dA : Nat → ClassId) (b t0 t1 : Nat) (xs : Nat → Int32) (Ln : Nat) (g : KG) (h : KH) (ad : Int → Nat) (sz : Nat) (r : Option KV) (g1 : KG) (h1 : KH) : Array Value → State → Outcome → State → Prop := fun _ st oc t =>
  ∃ ad1 : Int → Nat, oc = .returned (r.map (rv ad1)) ∧ (∀ i, 0 ≤ i → i < gN g → ad1 i = ad i) ∧ (ad1 (-4) = b ∧ ad1 (-2) = t0 ∧ ad1 (-3) = t1) ∧ va_P D vwC (wl dA ad1 g1 h1) t.heap ∧ va_D (va_A (wl dA ad g h) sz) (wl dA ad1 g1 h1) ∧ va_F (va_A (wl dA ad g h) sz) st t ∧ okW xs Ln g1 h1 ∧ ∀ v ∈ r.toList, okV g1 v
theorem CPc.blind {D : va_G} {dA : Nat → ClassId} {b t0 t1 : Nat} {xs : Nat → Int32} {Ln : Nat} {as : List KV} {g : KG} {h : KH} {ad : Int → Nat} {sz : Nat} : FrameBlind (CPc D dA b t0 t1 xs Ln as g h ad sz) := by
  intro a U fr mk ⟨q1, q2, q3, q4, q5, x1, x2, x3, x4, x5, adV, x6, x7, x8, x9, x10, x11⟩
  have hal : U.vm.Alike (U.calling fr mk a).vm := Vm.Alike.refl U.vm
  exact ⟨q1, q2, q3, va_K.moved (u := U) (U := U.calling fr mk a) hal q4, q5, x1.moved hal, x2, x3, vk_R.same (u := U) (U := U.calling fr mk a) rfl x4, vk_R.same (u := U) (U := U.calling fr mk a) rfl x5, adV, x6.moved hal, x7.moved hal, x8.moved hal, x9.moved hal, x10.moved hal, fun e he h0 => va_Nw.same (u := U) (U := U.calling fr mk a) rfl rfl (x11 e he h0)⟩
/-- the end of a run of method k -/
def SoundF (f : Nat) : Prop := ∀ (d k pc : Nat) (ls st : List KV) (g : KG) (h : KH) (r : Option KV) (g1 : KG) (h1 : KH), exec f d k pc ls st g h = some (r, g1, h1) →
  ∀ {p : Program} {l : Launch} {e : Env} {R : Room} {s : State} {m : MethodId} {args : Array Value} {below : List Frame} {meth : Method} {c : Code} {Q : State → Prop} {D : va_G} {dA : Nat → ClassId} {A : Nat → Prop} {b t0 t1 : Nat} {ad0 : Int → Nat} {n0 cb sb : Int} {xs : Nat → Int32} {Ln : Nat},
  Fr p R s m args meth c D dA A b t0 t1 xs Ln k d → gC g1 - cb ≤ R.cells → gS g1 - sb ≤ R.slots →
  (∀ (ad : Int → Nat) (H : Heap) (locs : List Loc) (cells slots : Nat) (L : Array Slot) (pc1 : Nat) (ri : Instr), rets k ri r.toList = some r → decode (mcode k) pc1 = .ok (ri, 1) → (∀ v ∈ r.toList, okV g1 v) → (ad (-4) = b ∧ ad (-2) = t0 ∧ ad (-3) = t1) → (n0 ≤ gN g1 ∧ 0 ≤ n0 ∧ ∀ i, 0 ≤ i → i < n0 → ad i = ad0 i) → va_P D vwC (wl dA ad g1 h1) H → va_D A (wl dA ad g1 h1) → va_S A s.heap H locs → (cells : Int) = gC g1 - cb → (slots : Int) = gS g1 - sb → okW xs Ln g1 h1 → W p l e R s m args below meth c H locs cells slots Q (F0 m pc1 L (r.toList.map (rv ad)))) →
  SW p l e R s m args below meth c Q D dA A b t0 t1 ad0 n0 cb sb xs Ln k pc ls st g h
theorem rets_inv {k : Nat} {ri : Instr} {st : List KV} {r : Option KV} (h : rets k ri st = some r) : st = r.toList ∧ fln ri = some 1 := by
  unfold rets at h
  split at h
  · split at h
    · split at h
      · cases h; exact ⟨rfl, rfl⟩
      · cases h
    · cases h
  · split at h
    · split at h
      · cases h; exact ⟨rfl, rfl⟩
      · cases h
    · cases h
  · split at h
    · split at h
      · cases h; exact ⟨rfl, rfl⟩
      · cases h
    · cases h
  · cases h
theorem lay_le : ∀ as : List KV, (lay as).length ≤ 2 * as.length
  | [] => Nat.le_refl _
  | .inl a :: l => by have := lay_le l; simp only [lay, List.length_cons]; omega
  | .inr (.inl a) :: l => by have := lay_le l; simp only [lay, List.length_cons]; omega
  | .inr (.inr (.inl a)) :: l => by have := lay_le l; simp only [lay, List.length_cons]; omega
  | .inr (.inr (.inr ())) :: l => by have := lay_le l; simp only [lay, List.length_cons]; omega
theorem okV_ne {g : KG} {v : KV} (h : okV g v) : v ≠ xU := by
  rintro rfl
  exact h
/-- a method by its run -/
theorem met_k {f : Nat} (IH : SoundF f) {d k : Nat} (hk : k < 266) {as : List KV} {g g1 : KG} {h h1 : KH} {r : Option KV} (hx : exec f d k 0 (mkl as (mloc k)) [] g h = some (r, g1, h1)) (l : Launch) (D : va_G) (dA : Nat → ClassId) (b t0 t1 : Nat) (xs : Nat → Int32) (Ln : Nat) (ad : Int → Nat) (sz mc ms : Nat)
    (hW : okW xs Ln g h) (has : ∀ v ∈ as, okV g v) (hlay : (lay as).length ≤ mloc k) (had : ad (-4) = b ∧ ad (-2) = t0 ∧ ad (-3) = t1) (hmc : (mc : Int) = gC g1 - gC g) (hms : (ms : Int) = gS g1 - gS g) :
    Met l (mnm k) (wsk k) (rmm d mc ms) (CPc D dA b t0 t1 xs Ln as g h ad sz) (CQc D dA b t0 t1 xs Ln g h ad sz r g1 h1) mc ms (va_A (wl dA ad g h) sz) := by
  obtain ⟨tn1, tn2, tn3, tn4, tn5, tn6, tn7, tn8⟩ := tb_nm k hk
  refine Met.ofW (cc := mcode k) (maxL := mloc k) (ret := retT (mret k)) tn2 rfl ?_
  intro p e s m args below meth c s₁ B hml hv
  obtain ⟨rfl, hsz, hP, hK, hD0, hX⟩ := hv
  have hts := atoms_spec (ws := wsk k) B.pre
  have hown : s.vm.findClass (cnm (mcls k)) = some m.cls := by rw [← tn1]; exact findClass_of_methodNamed B.named
  have hr := B.returns
  have hlocks := B.notSynchronized
  subst hsz
  have hD := hD0.self (sz := s.heap.size)
  have hA : ∀ q : Nat, s.heap.size ≤ q → va_A (wl dA ad g h) s.heap.size q := fun q h => Or.inr h
  have F : Fr p (rmm d mc ms) s m (as.map (rv ad)).toArray meth c D dA (va_A (wl dA ad g h) s.heap.size) b t0 t1 xs Ln k d :=
    ⟨B.exec, B.bytes, hml, hown, fun hi => by rw [(name_of_methodNamed B.named B.method).1]; exact tn8.mp hi, fun w hw => hts w (List.mem_cons_of_mem _ hw), hK, hA, hX, Nat.le_refl _, Nat.le_refl _⟩
  have hu : ∀ v ∈ as, v ≠ xU := fun v hv => okV_ne (has v hv)
  have hl := lvr_entry (ad := ad) hu hlay
  rw [lg_entry_eq]
  have hll : (mkl as (mloc k)).length = mloc k := by unfold mkl; rw [List.length_append, List.length_replicate]; omega
  have S := IH d k 0 (mkl as (mloc k)) [] g h r g1 h1 hx (p := p) (l := l) (e := e) (R := rmm d mc ms) (s := s) (m := m) (args := (as.map (rv ad)).toArray) (below := below) (meth := meth) (c := c) (Q := MQ below (CQc D dA b t0 t1 xs Ln g h ad s.heap.size r g1 h1) (as.map (rv ad)).toArray s mc ms (va_A (wl dA ad g h) s.heap.size)) (ad0 := ad) (n0 := gN g) (cb := gC g) (sb := gS g) F (by show _ ≤ ((mc : Nat) : Int); omega) (by show _ ≤ ((ms : Nat) : Int); omega) ?_
  · refine S ad s.heap [] 0 0 _ hW (fun v hv => by cases hv) (fun v hv => ?_) hll hl had ⟨Int.le_refl _, hW.1, fun _ _ _ => rfl⟩ hP hD va_S.rf (by omega) (by omega)
    unfold mkl at hv
    rcases List.mem_append.mp hv with hv | hv
    · exact Classical.or_iff_not_imp_left.mpr (fun hne => by
        obtain ⟨j, hj⟩ := List.getElem?_of_mem hv
        have hmem := lay_args ad as 0 j v hu hj hne
        clear S
        have : ∀ (bs : List KV), v ∈ lay bs → v ≠ xU → v ∈ bs := by
          intro bs
          induction bs with
          | nil => intro q _; simp [lay] at q
          | cons x l ih =>
            intro q hq
            rcases x with a | a | a | a
            · rcases List.mem_cons.mp (show v ∈ xI a :: lay l from q) with z | z
              · rw [z]; exact List.mem_cons_self
              · exact List.mem_cons_of_mem _ (ih z hq)
            · rcases List.mem_cons.mp (show v ∈ xL a :: xU :: lay l from q) with z | z
              · rw [z]; exact List.mem_cons_self
              · rcases List.mem_cons.mp z with z | z
                · exact absurd z hq
                · exact List.mem_cons_of_mem _ (ih z hq)
            · rcases List.mem_cons.mp (show v ∈ xR a :: lay l from q) with z | z
              · rw [z]; exact List.mem_cons_self
              · exact List.mem_cons_of_mem _ (ih z hq)
            · rcases List.mem_cons.mp (show v ∈ xU :: lay l from q) with z | z
              · exact absurd z hq
              · exact List.mem_cons_of_mem _ (ih z hq)
        exact has v (this as hv hne))
    · exact Or.inl (List.eq_of_mem_replicate hv)
  · intro ad2 H locs cells slots L pc1 ri e1 e2 e3 e4 e5 e6 e7 e8 e9 e10 e11
    have hcell : cells = mc := by omega
    have hslot : slots = ms := by omega
    subst hcell; subst hslot
    have post : ∀ t : State, t.heap = H → s.WarmedH t.vm → CQc D dA b t0 t1 xs Ln g h ad s.heap.size r g1 h1 (as.map (rv ad)).toArray s (.returned (r.map (rv ad2))) t := fun t ht _ => ⟨ad2, rfl, e5.2.2, e4, by rw [ht]; exact e6, e7, e8.F ht, e11, e3⟩
    unfold rets at e1
    split at e1
    · cases r with
      | none => cases e1
      | some v =>
        rcases v with x | x | x | x
        · have e1' : (if mret k = 1 ∨ (mret k = 2 ∧ 0 ≤ x ∧ x ≤ 1) then some (some (xI x)) else none) = some (some (xI x)) := e1
          by_cases q : mret k = 1 ∨ (mret k = 2 ∧ 0 ≤ x ∧ x ≤ 1)
          · rcases q with q | ⟨q, q1, q2⟩
            · exact W.iret B.exec B.bytes (by rw [hr, q]; rfl) post e8.2.2 e2
            · exact W.zret (ty := .boolean) B.exec B.bytes (by rw [hr, q]; rfl) (by have : x = 0 ∨ x = 1 := by omega
                                                                                    rcases this with rfl | rfl <;> rfl) post e8.2.2 e2
          · rw [if_neg q] at e1'; cases e1'
        · cases e1
        · cases e1
        · cases e1
    · cases r with
      | none => cases e1
      | some v =>
        rcases v with x | x | x | x
        · cases e1
        · have e1' : (if mret k = 3 then some (some (xL x)) else none) = some (some (xL x)) := e1
          by_cases q : mret k = 3
          · exact W.lret B.exec B.bytes (by rw [hr, q]; rfl) post e8.2.2 e2
          · rw [if_neg q] at e1'; cases e1'
        · cases e1
        · cases e1
    · cases r with
      | none =>
        have e1' : (if mret k = 0 then some none else none) = some (none : Option KV) := e1
        by_cases q : mret k = 0
        · exact W.vret B.exec B.bytes (by rw [hr, q]; rfl) post e8.2.2 e2
        · rw [if_neg q] at e1'; cases e1'
      | some v => cases e1
    · cases e1
