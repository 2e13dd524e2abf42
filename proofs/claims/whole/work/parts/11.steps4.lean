/-! STEPS, fourth: new cells, switches, the machine's own members. -/
theorem okR_mono {g g1 : KG} (hg : gN g ≤ gN g1) {a : Int} (h : okR g a) : okR g1 a := by unfold okR at h ⊢; omega
theorem okV_mono {g g1 : KG} (hg : gN g ≤ gN g1) {v : KV} (h : okV g v) : okV g1 v := by
  rcases v with a | a | a | a
  · exact h
  · exact h
  · exact okR_mono hg h
  · exact h
theorem tok_mono {g g1 : KG} (hg : gN g ≤ gN g1) {t : Nat} {v : Int} (h : tok g t v) : tok g1 t v := by
  unfold tok at h ⊢
  split at h
  · exact h
  · exact okR_mono hg h
  · exact h
  · exact h
theorem dok_mono {g g1 : KG} (hg : gN g ≤ gN g1) {c j v : Int} (h : dok g c j v) : dok g1 c j v := by
  unfold dok at h ⊢
  by_cases c1 : c < 20
  · rw [if_pos c1] at h ⊢; exact tok_mono hg h
  · rw [if_neg c1] at h ⊢
    by_cases c2 : c = 21
    · rw [if_pos c2] at h ⊢; exact h
    · rw [if_neg c2] at h ⊢
      by_cases c3 : c = 22
      · rw [if_pos c3] at h ⊢; exact h
      · rw [if_neg c3] at h ⊢
        by_cases c4 : c = 23
        · rw [if_pos c4] at h ⊢; exact h
        · rw [if_neg c4] at h ⊢
          by_cases c5 : 24 ≤ c
          · rw [if_pos c5] at h ⊢; exact okR_mono hg h
          · rw [if_neg c5] at h ⊢; exact h
def ad_new (ad : Int → Nat) (n : Int) (q : Nat) : Int → Nat := fun x => if x = n then q else ad x
theorem ad_new_ne {ad : Int → Nat} {n x : Int} {q : Nat} (h : x ≠ n) : ad_new ad n q x = ad x := by unfold ad_new; rw [if_neg h]
theorem rv_new {ad : Int → Nat} {g : KG} {q : Nat} (hn : 0 ≤ gN g) {v : KV} (h : okV g v) : rv (ad_new ad (gN g) q) v = rv ad v := by
  rcases v with a | a | a | a
  · rfl
  · rfl
  · have ha : okR g a := h
    unfold okR at ha
    show (if a = -1 then Value.null else .ref _) = (if a = -1 then Value.null else .ref _)
    rw [ad_new_ne (by omega)]
  · rfl
theorem kset_ne {f : Int → Int} {a v x : Int} (h : x ≠ a) : kset f a v x = f x := by unfold kset; rw [if_neg h]
theorem kset_eq {f : Int → Int} {a v : Int} : kset f a v a = v := by unfold kset; rw [if_pos rfl]
theorem hnew_ne {h : KH} {a x : Int} {f : Int → Int} (hx : x ≠ a) (j : Int) : hnew h a f x j = h x j := by unfold hnew; rw [if_neg hx]
theorem hnew_eq {h : KH} {a : Int} {f : Int → Int} (j : Int) : hnew h a f a j = f j := by unfold hnew; rw [if_pos rfl]
theorem okW_new {xs : Nat → Int32} {Ln : Nat} {g : KG} {h : KH} {ck n z : Int} {f : Int → Int} (hW : okW xs Ln g h) (h1 : (0 ≤ ck ∧ ck < 13) ∨ (20 ≤ ck ∧ ck ≤ 25)) (h2 : 0 ≤ n ∧ n ≤ 60000) (h3 : ∀ j, dok g ck j (f j)) : okW xs Ln (gnew g ck n z) (hnew h (gN g) f) := by
  obtain ⟨w1, w2, w3, w4, w5, w6, w7⟩ := hW
  have hg : gN g ≤ gN (gnew g ck n z) := by show gN g ≤ gN g + 1; omega
  refine ⟨by show 0 ≤ gN g + 1; omega, fun a ha => ?_, fun a a0 a1 => ?_, ?_, ?_, fun i hi => ?_, w7⟩
  · show a = -4 ∨ (0 ≤ a ∧ a < gN g + 1)
    by_cases q : a = gN g
    · omega
    · have := w2 a (by have ha2 : 0 ≤ kset (gK g) (gN g) ck a := ha; rwa [kset_ne q] at ha2)
      omega
  · by_cases q : a = gN g
    · subst q
      refine ⟨?_, ?_, fun j => ?_⟩
      · show (0 ≤ kset (gK g) (gN g) ck (gN g) ∧ _) ∨ _
        rw [show gK (gnew g ck n z) (gN g) = ck from kset_eq, kset_eq]; exact h1
      · rw [show gL (gnew g ck n z) (gN g) = n from kset_eq]; exact h2
      · rw [show gK (gnew g ck n z) (gN g) = ck from kset_eq, hnew_eq]
        exact dok_mono hg (h3 j)
    · have a1 : a < gN g := by have : a < gN g + 1 := a1; omega
      obtain ⟨b1, b2, b3⟩ := w3 a a0 a1
      have e1 : gK (gnew g ck n z) a = gK g a := kset_ne q
      have e2 : gL (gnew g ck n z) a = gL g a := kset_ne q
      rw [e1, e2]
      exact ⟨b1, b2, fun j => by rw [hnew_ne q]; exact dok_mono hg (b3 j)⟩
  · have e1 : gK (gnew g ck n z) (-4) = gK g (-4) := kset_ne (by omega)
    rw [e1]; exact w4
  · have e1 : gL (gnew g ck n z) (-4) = gL g (-4) := kset_ne (by omega)
    rw [e1]; exact w5
  · rw [hnew_ne (by omega)]; exact w6 i hi
theorem ncl_in {c i ci : Nat} (h : ncl c i = some ci) : Cond.classLink (cnm c) i (cnm ci) ∈ lw_tbl ∧ ci < 13 := by
  unfold ncl at h
  rw [Option.map_eq_some_iff] at h
  obtain ⟨e, he, h2⟩ := h
  obtain ⟨h1, rfl, rfl⟩ := find_in he
  obtain ⟨q, hq⟩ := zip_mem tb_ncn h1
  have h3 := tb_ncl _ hq
  subst h2
  exact ⟨List.mem_of_getElem? h3.1, h3.2⟩
theorem nar_in {c i ci : Nat} (h : nar c i = some ci) : Cond.classLink (cnm c) i (anm ci) ∈ lw_tbl ∧ (ci = 24 ∨ ci = 25) := by
  unfold nar at h
  rw [Option.map_eq_some_iff] at h
  obtain ⟨e, he, h2⟩ := h
  obtain ⟨h1, rfl, rfl⟩ := find_in he
  obtain ⟨q, hq⟩ := zip_mem tb_nan h1
  have h3 := tb_nar _ hq
  subst h2
  exact ⟨List.mem_of_getElem? h3.1, h3.2⟩
theorem itr_in {c i x : Nat} (h : itr c i = some x) : Cond.methodLink (cnm c) i (inm x) ∈ lw_tbl := by
  unfold itr at h
  rw [Option.map_eq_some_iff] at h
  obtain ⟨e, he, h2⟩ := h
  obtain ⟨h1, rfl, rfl⟩ := find_in he
  obtain ⟨q, hq⟩ := zip_mem tb_itl h1
  have h3 := tb_itr _ hq
  subst h2
  exact List.mem_of_getElem? h3
theorem fz_ok {g : KG} {ci : Nat} (hc : ci < 13) (j : Int) : dok g (ci : Nat) j (fz ci j) := by
  unfold dok
  rw [if_pos (by omega)]
  have e : ((ci : Nat) : Int).toNat = ci := rfl
  rw [e]
  unfold fz tok
  split
  · rename_i q; rw [if_neg (by omega)]; unfold in64; omega
  · rename_i q; rw [if_pos q]; unfold okR; omega
  · rename_i q; rw [if_neg (by omega)]; omega
  · rename_i q1 q2 q3
    rw [if_neg q2]; unfold in32; omega
section STEP4
variable {p : Program} {l : Launch} {e : Env} {R : Room} {s : State} {m : MethodId} {args : Array Value} {below : List Frame} {meth : Method} {c : Code} {Q : State → Prop} {D : va_G} {dA : Nat → ClassId} {A : Nat → Prop} {b t0 t1 : Nat} {ad0 : Int → Nat} {n0 cb sb : Int} {xs : Nat → Int32} {Ln : Nat} {k d pc nx : Nat} {ls st : List KV} {g : KG} {h : KH}
theorem sw_grow {ck n z : Int} {f : Int → Int} (hN : SW p l e R s m args below meth c Q D dA A b t0 t1 ad0 n0 cb sb xs Ln k nx ls (xR (gN g) :: st) (gnew g ck n z) (hnew h (gN g) f)) (h1 : (0 ≤ ck ∧ ck < 13) ∨ (20 ≤ ck ∧ ck ≤ 25)) (h2 : 0 ≤ n ∧ n ≤ 60000) (h3 : ∀ j, dok g ck j (f j)) {ad : Int → Nat} {H1 : Heap} {locs : List Loc} {cells slots cells1 slots1 : Nat} {L : Array Slot} {q : Nat} {ee : va_E}
    (hW : okW xs Ln g h) (hst : ∀ v ∈ st, okV g v) (hls : ∀ v ∈ ls, v = xU ∨ okV g v) (hlen : ls.length = mloc k) (hlv : lvr ad ls L (mloc k)) (had : ad (-4) = b ∧ ad (-2) = t0 ∧ ad (-3) = t1) (hn : n0 ≤ gN g ∧ 0 ≤ n0 ∧ ∀ i, 0 ≤ i → i < n0 → ad i = ad0 i)
    (hP : va_P D vwC (wl dA ad g h ++ [(q, ee)]) H1) (hD : va_D A (wl dA ad g h ++ [(q, ee)])) (hS : va_S A s.heap H1 locs) (hc : (cells : Int) = gC g - cb) (hs2 : (slots : Int) = gS g - sb) (hc1 : cells1 = cells + 1) (hs1 : (slots1 : Int) = slots + z)
    (he : cel dA (ad_new ad (gN g) q) (gnew g ck n z) (hnew h (gN g) f) (gN g) = ee) : W p l e R s m args below meth c H1 locs cells1 slots1 Q (F0 m nx L (.ref q :: st.map (rv ad))) := by
  have hg0 := hW.1
  have hg : gN g ≤ gN (gnew g ck n z) := by show gN g ≤ gN g + 1; omega
  have hpush := wl_push (dA := dA) (ad := ad) (ad1 := ad_new ad (gN g) q) (g := g) (g1 := gnew g ck n z) (h := h) (h1 := hnew h (gN g) f) hg0 rfl (fun a ha => ⟨kset_ne ha, kset_ne ha, fun j => hnew_ne ha j⟩) (fun a a0 a1 => (hW.2.2.1 a a0 a1).2.2) (fun v hv => ad_new_ne hv)
  have ead : ad_new ad (gN g) q (gN g) = q := by unfold ad_new; rw [if_pos rfl]
  rw [he, ead] at hpush
  rw [← hpush] at hP hD
  have K := hN (ad_new ad (gN g) q) H1 locs cells1 slots1 L (okW_new hW h1 h2 h3) (okV_cons (by show okR _ (gN g); exact Or.inr ⟨hg0, by show gN g < gN g + 1; omega⟩) (fun v hv => okV_mono hg (hst v hv))) (fun v hv => (hls v hv).imp id (okV_mono hg)) hlen (lvr_ad hlv (fun v hv hu => rv_new hg0 ((hls v hv).resolve_left hu))) ⟨by rw [ad_new_ne (by omega)]; exact had.1, by rw [ad_new_ne (by omega)]; exact had.2.1, by rw [ad_new_ne (by omega)]; exact had.2.2⟩ ⟨by have := hn.1; omega, hn.2.1, fun i i0 i1 => by rw [ad_new_ne (by have := hn.1; omega)]; exact hn.2.2 i i0 i1⟩ hP hD hS (by show (cells1 : Int) = gC g + 1 - cb; omega) (by show (slots1 : Int) = gS g + z - sb; omega)
  have e1 : (xR (gN g) :: st).map (rv (ad_new ad (gN g) q)) = .ref q :: st.map (rv ad) := by
    rw [List.map_cons, rv_ref (by omega), ead]
    congr 1
    exact List.map_congr_left (fun v hv => rv_new hg0 (hst v hv))
  rw [e1] at K
  exact K
theorem sw_new (F : Fr p R s m args meth c D dA A b t0 t1 xs Ln k d) {i ci : Nat} (hi : At_ k pc (.new i) nx) (hcl : ncl (mcls k) i = some ci) (hcb : gC g + 1 - cb ≤ R.cells) (hsb : gS g + (nfl ci : Nat) - sb ≤ R.slots) (hN : SW p l e R s m args below meth c Q D dA A b t0 t1 ad0 n0 cb sb xs Ln k nx ls (xR (gN g) :: st) (gnew g (ci : Nat) 0 (nfl ci : Nat)) (hnew h (gN g) (fz ci))) : SW p l e R s m args below meth c Q D dA A b t0 t1 ad0 n0 cb sb xs Ln k pc ls (st) g h := by
  obtain ⟨n1, hd, rfl, hln⟩ := hi
  have hln : n1 = 3 := by simpa [fln] using hln
  subst hln
  have hx := F.1
  have hb := F.2.1
  intro ad H locs cells slots L hW hst hls hlen hlv had hn hP hD hS hc hs2
  obtain ⟨f1, f2⟩ := ncl_in hcl
  obtain ⟨r, r1, r2, r3, r4⟩ := tb_cls ci f2
  have hts := F.2.2.2.2.2.1
  have hg0 := hW.1
  have i1 := hts _ (lg (List.mem_of_getElem? (tb_inst ci f2)) rfl)
  have i2 := hts _ (lg (List.mem_of_getElem? (tb_ini ci f2)) rfl)
  have ty0 : ∀ x, x < r.2.2 → parseFieldDescriptor (r.2.1 x).2.2.1 = some (tyX ci x) := by
    rw [r3]
    intro x hx
    rw [r4 x hx]
    exact (tb_ty ci f2 x hx).1
  refine va_new (C := r.1) (T := r.2.1) (N := r.2.2) (fs := (List.range (nfl ci)).map fun j => rf ad (fty ci j) (fz ci (j : Nat))) hx hb hts (tb_wg ci f2 r r1) (tyX ci) ty0 F.2.2.2.1 (by rw [r2]; exact hts _ (lg f1 rfl)) (by rw [r2, r3]; exact i1) (by rw [r2]; exact i2) F.2.2.2.2.2.2.1 hP hD hS F.2.2.2.2.2.2.2.1 r1 (fun j hj => ?_) (by omega) (by rw [r3]; omega) hd (fun q H1 p1 p2 p3 => ?_)
  · rw [r3] at hj
    obtain ⟨y1, y2, y3, y4, y5, y6⟩ := tb_ty ci f2 j hj
    unfold vp_V
    rw [List.getD_eq_getElem?_getD, List.getElem?_map, List.getElem?_range hj]
    simp only [Option.map_some, Option.getD_some]
    have ez : fz ci (j : Nat) = if fty ci j = 2 then -1 else 0 := rfl
    rw [ez]
    generalize fty ci j = t at *
    match t, y6 with
    | 0, _ => rw [y3 rfl]; rfl
    | 1, _ => rw [y2 rfl]; rfl
    | 2, _ =>
      have q := y5 rfl
      cases hty : tyX ci j with
      | object C => rfl
      | array C => rfl
      | _ => rw [hty] at q; cases q
    | 3, _ => rw [y4 rfl]; rfl
  · refine sw_grow hN (Or.inl ⟨by omega, by omega⟩) ⟨by omega, by omega⟩ (fun j => fz_ok f2 j) hW hst hls hlen hlv had hn p1 p2 p3 hc hs2 rfl (by rw [r3]; omega) ?_
    rw [cel_obj (ci := ci) (by show kset (gK g) (gN g) (ci : Nat) (gN g) = _; exact kset_eq) f2]
    congr 2
    apply List.map_congr_left
    intro j _
    rw [hnew_eq]
    refine rf_ad (fun ht => ?_)
    have ez : fz ci (j : Nat) = -1 := by show (if fty ci j = 2 then (-1 : Int) else 0) = -1; rw [if_pos ht]
    rw [ez]
    exact ad_new_ne (by omega)
theorem ra_get {D : va_G} {dA : Nat → ClassId} {s : State} (hK : va_K D vwC (tysA dA) s) {j : Nat} {q : ClassId × FieldType} (hq : (tysA dA)[j]? = some q) : va_RA s q.1 q.2 := (hK.2 j q hq).2
theorem ra_prim {s : State} {cA cB : ClassId} {ty : FieldType} (h1 : va_RA s cA ty) (h2 : va_RA s cB ty) : cA = cB := by
  cases ty with
  | object C =>
    obtain ⟨k1, c1, a1, a2, a3, a4⟩ := h1
    obtain ⟨k2, c2, b1, b2, b3, b4⟩ := h2
    rw [a4] at b4
    exact Option.some.inj b4
  | _ =>
    have h1' : s.vm.findClass _ = some cA := h1
    have h2' : s.vm.findClass _ = some cB := h2
    rw [h1'] at h2'
    exact Option.some.inj h2'
theorem ra_last {D : va_G} {cl : List vw_C} {tys : List (ClassId × FieldType)} {q : ClassId × FieldType} {s : State} (h : va_K D cl (tys ++ [q]) s) : va_RA s q.1 q.2 := (h.2 tys.length q (by rw [List.getElem?_append_right (Nat.le_refl _), Nat.sub_self]; rfl)).2
theorem dok_0 {g : KG} {ck j : Int} (h : 20 ≤ ck ∧ ck ≤ 23) : dok g ck j 0 := by
  have h6 : ck = 20 ∨ ck = 21 ∨ ck = 22 ∨ ck = 23 := by omega
  rcases h6 with rfl | rfl | rfl | rfl
  · exact (dok_20 rfl).mpr (by unfold in32; omega)
  · exact (dok_21 rfl).mpr (by unfold in64; omega)
  · exact (dok_22 rfl).mpr (by omega)
  · exact (dok_23 rfl).mpr (by omega)
theorem sw_newarray (F : Fr p R s m args meth c D dA A b t0 t1 xs Ln k d) {t : ArrayType} {c2 n : Int} (hi : At_ k pc (.newarray t) nx) (ha : akind t = some c2) (h0 : 0 ≤ n) (h1 : n ≤ 60000) (hcb : gC g + 1 - cb ≤ R.cells) (hsb : gS g + n - sb ≤ R.slots) (hN : SW p l e R s m args below meth c Q D dA A b t0 t1 ad0 n0 cb sb xs Ln k nx ls (xR (gN g) :: st) (gnew g c2 n n) (hnew h (gN g) (fun _ => 0))) : SW p l e R s m args below meth c Q D dA A b t0 t1 ad0 n0 cb sb xs Ln k pc ls (xI n :: st) g h := by
  obtain ⟨n1, hd, rfl, hln⟩ := hi
  have hln : n1 = 2 := by simpa [fln] using hln
  subst hln
  have hx := F.1
  have hb := F.2.1
  intro ad H locs cells slots L hW hst hls hlen hlv had hn hP hD hS hc hs2
  have hn32 : in32 n := okV_hd hst
  have hts := F.2.2.2.2.2.1
  have hg0 := hW.1
  have hcl := o32_clamp hn32 h0
  have hneg : ¬ Int32.ofInt n < 0 := fun q => by have := (o32_lt hn32 in32_0).mp q; omega
  have hb1 : ∀ z : Nat, z ≤ 8 → n.toNat * z ≤ 536870912 := fun z hz => by have : n.toNat * z ≤ 60000 * 8 := Nat.mul_le_mul (by omega) hz; omega
  rw [List.map_cons]
  have tl := okV_tl hst
  match t, ha with
  | .int, ha =>
    have ec : c2 = 20 := by cases ha; rfl
    subst ec
    refine va_newa (atype := .int) (ty := .int) (a0 := (n.toNat, .inl fun _ => (0 : Int32))) hx hb (hts _ (lg (List.mem_of_getElem? tb_ac.1) rfl)) rfl F.2.2.2.2.2.2.1 hP hD hS F.2.2.2.2.2.2.2.1 (N' := n.toNat) (fun cA => rfl) hneg hcl (hb1 4 (by decide)) (by omega) (by omega) hd (fun q cA H1 k1 p1 p2 p3 => ?_)
    have eA : cA = dA 0 := ra_prim (ra_last k1) (ra_get F.2.2.2.2.2.2.1 (j := 0) rfl)
    subst eA
    refine sw_grow hN (Or.inr ⟨by omega, by omega⟩) ⟨h0, h1⟩ (fun j => dok_0 ⟨by omega, by omega⟩) hW tl hls hlen hlv had hn p1 p2 p3 hc hs2 rfl (by omega) ?_
    have ek : gK (gnew g 20 n n) (gN g) = 20 := kset_eq
    have el : gL (gnew g 20 n n) (gN g) = n := kset_eq
    rw [cel_int (by omega), el, ek]
    congr 3
    simp only [hnew_eq]
    rfl
  | .long, ha =>
    have ec : c2 = 21 := by cases ha; rfl
    subst ec
    refine va_newa (atype := .long) (ty := .long) (a0 := (n.toNat, .inr (.inl fun _ => (0 : Int64)))) hx hb (hts _ (lg (List.mem_of_getElem? tb_ac.2.1) rfl)) rfl F.2.2.2.2.2.2.1 hP hD hS F.2.2.2.2.2.2.2.1 (N' := n.toNat) (fun cA => rfl) hneg hcl (hb1 8 (by decide)) (by omega) (by omega) hd (fun q cA H1 k1 p1 p2 p3 => ?_)
    have eA : cA = dA 1 := ra_prim (ra_last k1) (ra_get F.2.2.2.2.2.2.1 (j := 1) rfl)
    subst eA
    refine sw_grow hN (Or.inr ⟨by omega, by omega⟩) ⟨h0, h1⟩ (fun j => dok_0 ⟨by omega, by omega⟩) hW tl hls hlen hlv had hn p1 p2 p3 hc hs2 rfl (by omega) ?_
    have ek : gK (gnew g 21 n n) (gN g) = 21 := kset_eq
    have el : gL (gnew g 21 n n) (gN g) = n := kset_eq
    rw [cel_long ek, el]
    congr 3
    simp only [hnew_eq]
    rfl
  | .byte, ha =>
    have ec : c2 = 22 := by cases ha; rfl
    subst ec
    refine va_newa (atype := .byte) (ty := .byte) (a0 := (n.toNat, .inl fun _ => (0 : Int32))) hx hb (hts _ (lg (List.mem_of_getElem? tb_ac.2.2.1) rfl)) rfl F.2.2.2.2.2.2.1 hP hD hS F.2.2.2.2.2.2.2.1 (N' := n.toNat) (fun cA => rfl) hneg hcl (hb1 1 (by decide)) (by omega) (by omega) hd (fun q cA H1 k1 p1 p2 p3 => ?_)
    have eA : cA = dA 2 := ra_prim (ra_last k1) (ra_get F.2.2.2.2.2.2.1 (j := 2) rfl)
    subst eA
    refine sw_grow hN (Or.inr ⟨by omega, by omega⟩) ⟨h0, h1⟩ (fun j => dok_0 ⟨by omega, by omega⟩) hW tl hls hlen hlv had hn p1 p2 p3 hc hs2 rfl (by omega) ?_
    have ek : gK (gnew g 22 n n) (gN g) = 22 := kset_eq
    have el : gL (gnew g 22 n n) (gN g) = n := kset_eq
    rw [cel_int (by omega), el, ek]
    congr 3
    simp only [hnew_eq]
    rfl
  | .boolean, ha =>
    have ec : c2 = 23 := by cases ha; rfl
    subst ec
    refine va_newa (atype := .boolean) (ty := .boolean) (a0 := (n.toNat, .inl fun _ => (0 : Int32))) hx hb (hts _ (lg (List.mem_of_getElem? tb_ac.2.2.2) rfl)) rfl F.2.2.2.2.2.2.1 hP hD hS F.2.2.2.2.2.2.2.1 (N' := n.toNat) (fun cA => rfl) hneg hcl (hb1 1 (by decide)) (by omega) (by omega) hd (fun q cA H1 k1 p1 p2 p3 => ?_)
    have eA : cA = dA 3 := ra_prim (ra_last k1) (ra_get F.2.2.2.2.2.2.1 (j := 3) rfl)
    subst eA
    refine sw_grow hN (Or.inr ⟨by omega, by omega⟩) ⟨h0, h1⟩ (fun j => dok_0 ⟨by omega, by omega⟩) hW tl hls hlen hlv had hn p1 p2 p3 hc hs2 rfl (by omega) ?_
    have ek : gK (gnew g 23 n n) (gN g) = 23 := kset_eq
    have el : gL (gnew g 23 n n) (gN g) = n := kset_eq
    rw [cel_int (by omega), el, ek]
    congr 3
    simp only [hnew_eq]
    rfl
theorem sw_anewarray (F : Fr p R s m args meth c D dA A b t0 t1 xs Ln k d) {i ci : Nat} {n : Int} (hi : At_ k pc (.anewarray i) nx) (ha : nar (mcls k) i = some ci) (h0 : 0 ≤ n) (h1 : n ≤ 60000) (hcb : gC g + 1 - cb ≤ R.cells) (hsb : gS g + n - sb ≤ R.slots) (hN : SW p l e R s m args below meth c Q D dA A b t0 t1 ad0 n0 cb sb xs Ln k nx ls (xR (gN g) :: st) (gnew g (ci : Nat) n n) (hnew h (gN g) (fun _ => -1))) : SW p l e R s m args below meth c Q D dA A b t0 t1 ad0 n0 cb sb xs Ln k pc ls (xI n :: st) g h := by
  obtain ⟨n1, hd, rfl, hln⟩ := hi
  have hln : n1 = 3 := by simpa [fln] using hln
  subst hln
  have hx := F.1
  have hb := F.2.1
  intro ad H locs cells slots L hW hst hls hlen hlv had hn hP hD hS hc hs2
  obtain ⟨f1, f2⟩ := nar_in ha
  have hn32 : in32 n := okV_hd hst
  have hts := F.2.2.2.2.2.1
  have hg0 := hW.1
  have hcl := o32_clamp hn32 h0
  have hneg : ¬ Int32.ofInt n < 0 := fun q => by have := (o32_lt hn32 in32_0).mp q; omega
  rw [List.map_cons]
  have tl := okV_tl hst
  have hao : va_AO (anm ci) s := by
    obtain ⟨adV, -, o1, o2, -⟩ := F.2.2.2.2.2.2.2.2.1.2.2.2.2.2
    rcases f2 with rfl | rfl
    · exact o1
    · exact o2
  refine va_newq (C := anm ci) hx hb F.2.2.2.1 (hts _ (lg f1 rfl)) hao F.2.2.2.2.2.2.1 hP hD hS F.2.2.2.2.2.2.2.1 hneg hcl (by omega) (by omega) (by omega) hd (fun q cA H1 k1 p1 p2 p3 => ?_)
  have eA : cA = dA ((ci : Int) - 20).toNat := by
    rcases f2 with rfl | rfl
    · exact ra_prim (ra_last k1) (ra_get F.2.2.2.2.2.2.1 (j := 4) rfl)
    · exact ra_prim (ra_last k1) (ra_get F.2.2.2.2.2.2.1 (j := 5) rfl)
  subst eA
  refine sw_grow hN (Or.inr ⟨by omega, by omega⟩) ⟨h0, h1⟩ (fun j => (dok_24 (by omega)).mpr (by unfold okR; omega)) hW tl hls hlen hlv had hn p1 p2 p3 hc hs2 rfl (by omega) ?_
  have ek : gK (gnew g (ci : Nat) n n) (gN g) = (ci : Nat) := kset_eq
  have el : gL (gnew g (ci : Nat) n n) (gN g) = n := kset_eq
  rw [cel_ref (by rw [ek]; omega), el, ek]
  simp only [hnew_eq]
  rfl
theorem sw_tsw (F : Fr p R s m args meth c D dA A b t0 t1 xs Ln k d) {df lo hi a : Int} {offs : Array Int} {off : Int} {t : Nat} (hi0 : At_ k pc (.tableswitch df lo hi offs) nx) (ho : (a < lo ∨ hi < a) ∧ off = df ∨ ¬ (a < lo ∨ hi < a) ∧ offs[(a - lo).toNat]? = some off) (ht : (pc : Int) + off = (t : Int)) (hN : SW p l e R s m args below meth c Q D dA A b t0 t1 ad0 n0 cb sb xs Ln k t ls st g h) : SW p l e R s m args below meth c Q D dA A b t0 t1 ad0 n0 cb sb xs Ln k pc ls (xI a :: st) g h := by
  obtain ⟨n1, hd, rfl, hln⟩ := hi0
  have hx := F.1
  have hb := F.2.1
  intro ad H locs cells slots L hW hst hls hlen hlv had hn hP hD hS hc hs2
  have ha : in32 a := okV_hd hst
  have K := hN ad H locs cells slots L hW (okV_tl hst) hls hlen hlv had hn hP hD hS hc hs2
  have ea := o32_in ha
  rcases ho with ⟨h1, rfl⟩ | ⟨h1, h2⟩
  · exact lv_tableOut hx hb hd (by rw [ea]; exact h1) ht K
  · exact lv_tableIn hx hb hd (by rw [ea]; omega) (by rw [ea]; omega) (by rw [ea]; exact h2) ht K
theorem sw_lsw (F : Fr p R s m args meth c D dA A b t0 t1 xs Ln k d) {df a : Int} {ps : Array (Int × Int)} {t : Nat} (hi0 : At_ k pc (.lookupswitch df ps) nx) (hz : (ps.toList.zip (ps.toList.drop 1)).all (fun q => decide (q.1.1 < q.2.1)) = true) (ht : (pc : Int) + lksw ps.toList a df = (t : Int)) (hN : SW p l e R s m args below meth c Q D dA A b t0 t1 ad0 n0 cb sb xs Ln k t ls st g h) : SW p l e R s m args below meth c Q D dA A b t0 t1 ad0 n0 cb sb xs Ln k pc ls (xI a :: st) g h := by
  obtain ⟨n1, hd, rfl, hln⟩ := hi0
  have hx := F.1
  have hb := F.2.1
  intro ad H locs cells slots L hW hst hls hlen hlv had hn hP hD hS hc hs2
  have ha : in32 a := okV_hd hst
  have K := hN ad H locs cells slots L hW (okV_tl hst) hls hlen hlv had hn hP hD hS hc hs2
  exact lv_lookup hx hb hd hz (by rw [o32_in ha]; exact lksw_off _ _ _) ht K
end STEP4
