/-! STEPS, further: locals, jumps, constants, fields, arrays, new cells. -/
theorem zip_mem {α β : Type} {l1 : List α} {l2 : List β} (hl : l1.length = l2.length) {e : α} (he : e ∈ l1) : ∃ q, (e, q) ∈ l1.zip l2 := by
  obtain ⟨i, hi⟩ := List.getElem?_of_mem he
  have h1 := (List.getElem?_eq_some_iff.mp hi).1
  refine ⟨l2[i]'(by omega), List.mem_of_getElem? (i := i) ?_⟩
  rw [List.getElem?_zip_eq_some]
  exact ⟨hi, List.getElem?_eq_getElem (by omega)⟩
theorem find_in {α : Type} {l : List (Nat × Nat × α)} {c i : Nat} {e : Nat × Nat × α} (h : l.find? (fun e => e.1 == c && e.2.1 == i) = some e) : e ∈ l ∧ e.1 = c ∧ e.2.1 = i := by
  have h1 := List.find?_some h
  simp only [Bool.and_eq_true, beq_iff_eq] at h1
  exact ⟨List.mem_of_find?_eq_some h, h1.1, h1.2⟩
theorem kst_in {c i t : Nat} {v : Int} (h : kst c i = some (t, v)) : kcond c i t v ∈ lw_tbl ∧ (t = 0 → in32 v) ∧ (t = 1 → in64 v) ∧ (t = 2 → c = 12 ∧ ((i = 164 ∧ v = -2) ∨ (i = 229 ∧ v = -3))) := by
  unfold kst at h
  rw [Option.map_eq_some_iff] at h
  obtain ⟨e, he, h2⟩ := h
  obtain ⟨h1, rfl, rfl⟩ := find_in he
  obtain ⟨q, hq⟩ := zip_mem tb_ksn h1
  have h3 := tb_kst _ hq
  have h4 := tb_ksr _ h1
  obtain ⟨e1, e2, e3, e4⟩ := e
  simp only [Prod.mk.injEq] at h2
  obtain ⟨rfl, rfl⟩ := h2
  exact ⟨List.mem_of_getElem? h3, fun z => h4.1 z, fun z => h4.2.1 z, fun z => h4.2.2 z⟩
theorem fld_in {c i ci j t : Nat} (h : fld c i = some (ci, j, t)) : Cond.fieldLink (cnm c) i (fT ci j).1 (fT ci j).2.1 (fT ci j).2.2.1 ∈ lw_tbl ∧ ci < 13 ∧ j < nfl ci ∧ fty ci j = t ∧ (fT ci j).1 = cnm ci ∧ (fT ci j).2.2.2 = ffi ci j := by
  unfold fld at h
  rw [Option.map_eq_some_iff] at h
  obtain ⟨e, he, h2⟩ := h
  obtain ⟨h1, rfl, rfl⟩ := find_in he
  have h3 := tb_fld _ h1
  have h4 := tb_fl2 _ h1
  obtain ⟨e1, e2, e3, e4, e5, e6⟩ := e
  simp only [Prod.mk.injEq] at h2
  obtain ⟨rfl, rfl, rfl⟩ := h2
  exact ⟨List.mem_of_getElem? h3, h4⟩
theorem okW_set {xs : Nat → Int32} {Ln : Nat} {g : KG} {h : KH} {a j v : Int} (hW : okW xs Ln g h) (ha : 0 ≤ a) (hv : dok g (gK g a) j v) : okW xs Ln g (hset h a j v) := by
  obtain ⟨w1, w2, w3, w4, w5, w6, w7⟩ := hW
  refine ⟨w1, w2, fun a2 h0 h1 => ⟨(w3 a2 h0 h1).1, (w3 a2 h0 h1).2.1, fun i => ?_⟩, w4, w5, fun i hi => ?_, w7⟩
  · unfold hset
    split
    · rename_i q
      rw [q.1, q.2]; exact hv
    · exact (w3 a2 h0 h1).2.2 i
  · unfold hset
    rw [if_neg (by omega)]
    exact w6 i hi
theorem hset_ne {h : KH} {a j v : Int} : ∀ b, b ≠ a → ∀ i, hset h a j v b i = h b i := fun b hb i => by unfold hset; rw [if_neg (fun q => hb q.1)]
theorem cel_obj {dA : Nat → ClassId} {ad : Int → Nat} {g : KG} {h : KH} {a : Int} {ci : Nat} (hk : gK g a = (ci : Int)) (hc : ci < 13) : cel dA ad g h a = .inr (ci, (List.range (nfl ci)).map fun j => rf ad (fty ci j) (h a (j : Nat))) := by
  unfold cel
  rw [if_pos (by rw [hk]; omega)]
  have e : (gK g a).toNat = ci := by rw [hk]; rfl
  rw [e]
theorem fs_at {ad : Int → Nat} {h : KH} {a : Int} {ci j : Nat} (hj : j < nfl ci) : ((List.range (nfl ci)).map fun j => rf ad (fty ci j) (h a (j : Nat)))[j]? = some (rf ad (fty ci j) (h a (j : Nat))) := by
  rw [List.getElem?_map, List.getElem?_range hj]
  rfl
theorem fs_set {ad : Int → Nat} {h : KH} {a v : Int} {ci j : Nat} (hj : j < nfl ci) : ((List.range (nfl ci)).map fun j => rf ad (fty ci j) (h a (j : Nat))).set j (rf ad (fty ci j) v) = (List.range (nfl ci)).map fun i => rf ad (fty ci i) (hset h a (j : Nat) v a (i : Nat)) := by
  apply List.ext_getElem?
  intro i
  rw [List.getElem?_set, List.getElem?_map, List.getElem?_map, List.length_map, List.length_range]
  by_cases e : j = i
  · subst e
    rw [if_pos rfl, if_pos hj, List.getElem?_range hj]
    simp [hset]
  · rw [if_neg e]
    by_cases hi : i < nfl ci
    · rw [List.getElem?_range hi]
      simp only [Option.map_some, hset]
      rw [if_neg (fun q => e (by omega))]
    · rw [List.getElem?_eq_none (by rw [List.length_range]; omega)]
      rfl
theorem cel_int {dA : Nat → ClassId} {ad : Int → Nat} {g : KG} {h : KH} {a : Int} (hk : gK g a = 20 ∨ gK g a = 22 ∨ gK g a = 23) : cel dA ad g h a = .inl (dA (gK g a - 20).toNat, (gL g a).toNat, .inl fun j => Int32.ofInt (h a (j : Nat))) := by
  unfold cel
  rw [if_neg (by omega), if_neg (by omega), if_neg (by omega)]
theorem cel_long {dA : Nat → ClassId} {ad : Int → Nat} {g : KG} {h : KH} {a : Int} (hk : gK g a = 21) : cel dA ad g h a = .inl (dA 1, (gL g a).toNat, .inr (.inl fun j => Int64.ofInt (h a (j : Nat)))) := by
  unfold cel
  rw [if_neg (by omega), if_pos hk]
theorem cel_ref {dA : Nat → ClassId} {ad : Int → Nat} {g : KG} {h : KH} {a : Int} (hk : gK g a = 24 ∨ gK g a = 25) : cel dA ad g h a = .inl (dA (gK g a - 20).toNat, (gL g a).toNat, .inr (.inr (.inr (.inr fun j => ro ad (h a (j : Nat)))))) := by
  unfold cel
  rw [if_neg (by omega), if_neg (by omega), if_pos (by omega)]
section STEP2
variable {p : Program} {l : Launch} {e : Env} {R : Room} {s : State} {m : MethodId} {args : Array Value} {below : List Frame} {meth : Method} {c : Code} {Q : State → Prop} {D : va_G} {dA : Nat → ClassId} {A : Nat → Prop} {b t0 t1 : Nat} {ad0 : Int → Nat} {n0 cb sb : Int} {xs : Nat → Int32} {Ln : Nat} {k d pc nx : Nat} {ls st : List KV} {g : KG} {h : KH}
theorem sw_istore_n (F : Fr p R s m args meth c D dA A b t0 t1 xs Ln k d) {j : Fin 4} {ls1 st1 : List KV} (hi : At_ k pc (.istore_n j) nx) (hs : soI ls st j.val = some (ls1, st1)) (hN : SW p l e R s m args below meth c Q D dA A b t0 t1 ad0 n0 cb sb xs Ln k nx ls1 st1 g h) : SW p l e R s m args below meth c Q D dA A b t0 t1 ad0 n0 cb sb xs Ln k pc ls st g h := by
  obtain ⟨n, hd, rfl, hln⟩ := hi
  have hln : n = 1 := by simpa [fln] using hln
  subst hln
  have hx := F.1
  have hb := F.2.1
  obtain ⟨a, rfl, rfl, hj⟩ := soI_inv hs
  intro ad H locs cells slots L hW hst hls hlen hlv had hn hP hD hS hc hs2
  exact lv_istore_n (lv := lvl ad ls) hx hb hd rfl (lvr_has.mp hlv) (by omega) rfl (fun L1 hL1 => hN ad H locs cells slots L1 hW (okV_tl hst) (stI_mem hls (okV_hd hst)) (by rw [stI_len]; exact hlen) (lvr_stI (v := xI a) hL1) had hn hP hD hS hc hs2)
theorem sw_istore (F : Fr p R s m args meth c D dA A b t0 t1 xs Ln k d) {j : Nat} {ls1 st1 : List KV} (hi : At_ k pc (.istore j) nx) (hs : soI ls st j = some (ls1, st1)) (hN : SW p l e R s m args below meth c Q D dA A b t0 t1 ad0 n0 cb sb xs Ln k nx ls1 st1 g h) : SW p l e R s m args below meth c Q D dA A b t0 t1 ad0 n0 cb sb xs Ln k pc ls st g h := by
  obtain ⟨n, hd, rfl, hln⟩ := hi
  have hln : n = 2 := by simpa [fln] using hln
  subst hln
  have hx := F.1
  have hb := F.2.1
  obtain ⟨a, rfl, rfl, hj⟩ := soI_inv hs
  intro ad H locs cells slots L hW hst hls hlen hlv had hn hP hD hS hc hs2
  exact lv_istore (lv := lvl ad ls) hx hb hd (lvr_has.mp hlv) (by omega) rfl (fun L1 hL1 => hN ad H locs cells slots L1 hW (okV_tl hst) (stI_mem hls (okV_hd hst)) (by rw [stI_len]; exact hlen) (lvr_stI (v := xI a) hL1) had hn hP hD hS hc hs2)
theorem sw_lstore_n (F : Fr p R s m args meth c D dA A b t0 t1 xs Ln k d) {j : Fin 4} {ls1 st1 : List KV} (hi : At_ k pc (.lstore_n j) nx) (hs : soL ls st j.val = some (ls1, st1)) (hN : SW p l e R s m args below meth c Q D dA A b t0 t1 ad0 n0 cb sb xs Ln k nx ls1 st1 g h) : SW p l e R s m args below meth c Q D dA A b t0 t1 ad0 n0 cb sb xs Ln k pc ls st g h := by
  obtain ⟨n, hd, rfl, hln⟩ := hi
  have hln : n = 1 := by simpa [fln] using hln
  subst hln
  have hx := F.1
  have hb := F.2.1
  obtain ⟨a, rfl, rfl, hj⟩ := soL_inv hs
  intro ad H locs cells slots L hW hst hls hlen hlv had hn hP hD hS hc hs2
  exact lv_lstore_n (lv := lvl ad ls) hx hb hd rfl (lvr_has.mp hlv) (by omega) rfl (fun L1 hL1 => hN ad H locs cells slots L1 hW (okV_tl hst) (stL_mem hls (okV_hd hst)) (by rw [stL_len]; exact hlen) (lvr_stL (v := xL a) hL1) had hn hP hD hS hc hs2)
theorem sw_lstore (F : Fr p R s m args meth c D dA A b t0 t1 xs Ln k d) {j : Nat} {ls1 st1 : List KV} (hi : At_ k pc (.lstore j) nx) (hs : soL ls st j = some (ls1, st1)) (hN : SW p l e R s m args below meth c Q D dA A b t0 t1 ad0 n0 cb sb xs Ln k nx ls1 st1 g h) : SW p l e R s m args below meth c Q D dA A b t0 t1 ad0 n0 cb sb xs Ln k pc ls st g h := by
  obtain ⟨n, hd, rfl, hln⟩ := hi
  have hln : n = 2 := by simpa [fln] using hln
  subst hln
  have hx := F.1
  have hb := F.2.1
  obtain ⟨a, rfl, rfl, hj⟩ := soL_inv hs
  intro ad H locs cells slots L hW hst hls hlen hlv had hn hP hD hS hc hs2
  exact lv_lstore (lv := lvl ad ls) hx hb hd (lvr_has.mp hlv) (by omega) rfl (fun L1 hL1 => hN ad H locs cells slots L1 hW (okV_tl hst) (stL_mem hls (okV_hd hst)) (by rw [stL_len]; exact hlen) (lvr_stL (v := xL a) hL1) had hn hP hD hS hc hs2)
theorem sw_astore_n (F : Fr p R s m args meth c D dA A b t0 t1 xs Ln k d) {j : Fin 4} {ls1 st1 : List KV} (hi : At_ k pc (.astore_n j) nx) (hs : soR ls st j.val = some (ls1, st1)) (hN : SW p l e R s m args below meth c Q D dA A b t0 t1 ad0 n0 cb sb xs Ln k nx ls1 st1 g h) : SW p l e R s m args below meth c Q D dA A b t0 t1 ad0 n0 cb sb xs Ln k pc ls st g h := by
  obtain ⟨n, hd, rfl, hln⟩ := hi
  have hln : n = 1 := by simpa [fln] using hln
  subst hln
  have hx := F.1
  have hb := F.2.1
  obtain ⟨a, rfl, rfl, hj, ha⟩ := soR_inv hs
  intro ad H locs cells slots L hW hst hls hlen hlv had hn hP hD hS hc hs2
  have e1 : rv ad (xR a) = .ref (ad a) := by
    have q : a ≠ -1 := by omega
    simp [rv, q]
  rw [List.map_cons, e1]
  exact lv_astore_n (lv := lvl ad ls) hx hb hd rfl (lvr_has.mp hlv) (by omega) rfl (fun L1 hL1 => hN ad H locs cells slots L1 hW (okV_tl hst) (stI_mem hls (okV_hd hst)) (by rw [stI_len]; exact hlen) (lvr_stI (v := xR a) (by rw [e1]; exact hL1)) had hn hP hD hS hc hs2)
theorem sw_astore (F : Fr p R s m args meth c D dA A b t0 t1 xs Ln k d) {j : Nat} {ls1 st1 : List KV} (hi : At_ k pc (.astore j) nx) (hs : soR ls st j = some (ls1, st1)) (hN : SW p l e R s m args below meth c Q D dA A b t0 t1 ad0 n0 cb sb xs Ln k nx ls1 st1 g h) : SW p l e R s m args below meth c Q D dA A b t0 t1 ad0 n0 cb sb xs Ln k pc ls st g h := by
  obtain ⟨n, hd, rfl, hln⟩ := hi
  have hln : n = 2 := by simpa [fln] using hln
  subst hln
  have hx := F.1
  have hb := F.2.1
  obtain ⟨a, rfl, rfl, hj, ha⟩ := soR_inv hs
  intro ad H locs cells slots L hW hst hls hlen hlv had hn hP hD hS hc hs2
  have e1 : rv ad (xR a) = .ref (ad a) := by
    have q : a ≠ -1 := by omega
    simp [rv, q]
  rw [List.map_cons, e1]
  exact lv_astore (lv := lvl ad ls) hx hb hd (lvr_has.mp hlv) (by omega) rfl (fun L1 hL1 => hN ad H locs cells slots L1 hW (okV_tl hst) (stI_mem hls (okV_hd hst)) (by rw [stI_len]; exact hlen) (lvr_stI (v := xR a) (by rw [e1]; exact hL1)) had hn hP hD hS hc hs2)
theorem sw_iinc (F : Fr p R s m args meth c D dA A b t0 t1 xs Ln k d) {j : Nat} {a v : Int} (hi : At_ k pc (.iinc j v) nx) (hl : ls[j]? = some (xI a)) (hN : SW p l e R s m args below meth c Q D dA A b t0 t1 ad0 n0 cb sb xs Ln k nx (stI ls j (xI (w32 (a + v)))) st g h) : SW p l e R s m args below meth c Q D dA A b t0 t1 ad0 n0 cb sb xs Ln k pc ls st g h := by
  obtain ⟨n, hd, rfl, hln⟩ := hi
  have hln : n = 3 := by simpa [fln] using hln
  subst hln
  have hx := F.1
  have hb := F.2.1
  intro ad H locs cells slots L hW hst hls hlen hlv had hn hP hD hS hc hs2
  obtain ⟨i, hi⟩ := List.getElem?_of_mem (lvl_mem.mpr ⟨xI a, hl, (fun q => by cases q), rfl⟩ : (j, rv ad (xI a)) ∈ lvl ad ls)
  have hj := (List.getElem?_eq_some_iff.mp hl).1
  have ha : in32 a := (hls _ (List.mem_of_getElem? hl)).resolve_left (fun q => by cases q)
  have hv : Int32.ofInt a + Int32.ofInt v = Int32.ofInt (w32 (a + v)) := by
    rw [o32_w]; apply o32_of; rw [Int32.toInt_add, o32_in ha, o32_toInt, bm32]; unfold w32; omega
  exact lv_iinc (lv := lvl ad ls) hx hb hd (lvr_has.mp hlv) hi hv (by omega) rfl (fun L1 hL1 => hN ad H locs cells slots L1 hW hst (stI_mem hls (w32_in _)) (by rw [stI_len]; exact hlen) (lvr_stI (v := xI (w32 (a + v))) hL1) had hn hP hD hS hc hs2)
theorem sw_ldc (F : Fr p R s m args meth c D dA A b t0 t1 xs Ln k d) {i : Nat} {v : Int} (hi : At_ k pc (.ldc i) nx) (hk : kst (mcls k) i = some (0, v)) (hN : SW p l e R s m args below meth c Q D dA A b t0 t1 ad0 n0 cb sb xs Ln k nx ls (xI v :: st) g h) : SW p l e R s m args below meth c Q D dA A b t0 t1 ad0 n0 cb sb xs Ln k pc ls st g h := by
  obtain ⟨n, hd, rfl, hln⟩ := hi
  have hln : n = 2 := by simpa [fln] using hln
  subst hln
  have hx := F.1
  have hb := F.2.1
  obtain ⟨h1, h2, h3, h4⟩ := kst_in hk
  exact sw_st hN (fun q _ => okV_cons (h2 rfl) q) (fun ad H locs cells slots L _ _ _ K => lv_ldc hx hb F.2.2.2.1 (F.2.2.2.2.2.1 _ (lg h1 rfl)) hd K)
theorem sw_ldc_w (F : Fr p R s m args meth c D dA A b t0 t1 xs Ln k d) {i : Nat} {v : Int} (hi : At_ k pc (.ldc_w i) nx) (hk : kst (mcls k) i = some (0, v)) (hN : SW p l e R s m args below meth c Q D dA A b t0 t1 ad0 n0 cb sb xs Ln k nx ls (xI v :: st) g h) : SW p l e R s m args below meth c Q D dA A b t0 t1 ad0 n0 cb sb xs Ln k pc ls st g h := by
  obtain ⟨n, hd, rfl, hln⟩ := hi
  have hln : n = 3 := by simpa [fln] using hln
  subst hln
  have hx := F.1
  have hb := F.2.1
  obtain ⟨h1, h2, h3, h4⟩ := kst_in hk
  exact sw_st hN (fun q _ => okV_cons (h2 rfl) q) (fun ad H locs cells slots L _ _ _ K => lv_ldcw hx hb F.2.2.2.1 (F.2.2.2.2.2.1 _ (lg h1 rfl)) hd K)
theorem sw_ldc2_w (F : Fr p R s m args meth c D dA A b t0 t1 xs Ln k d) {i : Nat} {v : Int} (hi : At_ k pc (.ldc2_w i) nx) (hk : kst (mcls k) i = some (1, v)) (hN : SW p l e R s m args below meth c Q D dA A b t0 t1 ad0 n0 cb sb xs Ln k nx ls (xL v :: st) g h) : SW p l e R s m args below meth c Q D dA A b t0 t1 ad0 n0 cb sb xs Ln k pc ls st g h := by
  obtain ⟨n, hd, rfl, hln⟩ := hi
  have hln : n = 3 := by simpa [fln] using hln
  subst hln
  have hx := F.1
  have hb := F.2.1
  obtain ⟨h1, h2, h3, h4⟩ := kst_in hk
  exact sw_st hN (fun q _ => okV_cons (h3 rfl) q) (fun ad H locs cells slots L _ _ _ K => lv_ldc2 hx hb F.2.2.2.1 (F.2.2.2.2.2.1 _ (lg h1 rfl)) hd K)
theorem sw_ldcS (F : Fr p R s m args meth c D dA A b t0 t1 xs Ln k d) {i : Nat} {v : Int} (hi : At_ k pc (.ldc i) nx) (hk : kst (mcls k) i = some (2, v)) (hN : SW p l e R s m args below meth c Q D dA A b t0 t1 ad0 n0 cb sb xs Ln k nx ls (xR v :: st) g h) : SW p l e R s m args below meth c Q D dA A b t0 t1 ad0 n0 cb sb xs Ln k pc ls st g h := by
  obtain ⟨n, hd, rfl, hln⟩ := hi
  have hln : n = 2 := by simpa [fln] using hln
  subst hln
  have hx := F.1
  have hb := F.2.1
  obtain ⟨h1, h2, h3, h4⟩ := kst_in hk
  obtain ⟨h5, h6⟩ := h4 rfl
  have ho := F.2.2.2.1
  rw [h5] at ho
  obtain ⟨x1, x2, x3, x4, x5, x6⟩ := F.2.2.2.2.2.2.2.2.1
  intro ad H locs cells slots L hW hst hls hlen hlv had hn hP hD hS hc hs2
  have K := hN ad H locs cells slots L hW (okV_cons (by unfold okV okR; omega) hst) hls hlen hlv had hn hP hD hS hc hs2
  rcases h6 with ⟨rfl, rfl⟩ | ⟨rfl, rfl⟩
  · have e1 : rv ad (xR (-2)) = .ref t0 := by rw [← had.2.1]; rfl
    rw [List.map_cons, e1] at K
    exact va_ldcS hx hb ho x4 hd K
  · have e1 : rv ad (xR (-3)) = .ref t1 := by rw [← had.2.2]; rfl
    rw [List.map_cons, e1] at K
    exact va_ldcS hx hb ho x5 hd K
theorem sw_goto (F : Fr p R s m args meth c D dA A b t0 t1 xs Ln k d) {off : Int} {t : Nat} {ls1 st1 : List KV} {g1 : KG} {h1 : KH} (hi : At_ k pc (.goto off) nx) (hj : jmp pc off ls st g h = some (t, ls1, st1, g1, h1)) (hN : SW p l e R s m args below meth c Q D dA A b t0 t1 ad0 n0 cb sb xs Ln k t ls1 st1 g1 h1) : SW p l e R s m args below meth c Q D dA A b t0 t1 ad0 n0 cb sb xs Ln k pc ls st g h := by
  obtain ⟨n, hd, rfl, hln⟩ := hi
  have hln : n = 3 := by simpa [fln] using hln
  subst hln
  have hx := F.1
  have hb := F.2.1
  obtain ⟨t2, ht, hz⟩ := jmp_inv hj
  cases hz
  intro ad H locs cells slots L hW hst hls hlen hlv had hn hP hD hS hc hs2
  exact lv_goto hx hb hd ht (hN ad H locs cells slots L hW hst hls hlen hlv had hn hP hD hS hc hs2)
theorem sw_if (F : Fr p R s m args meth c D dA A b t0 t1 xs Ln k d) {cn : Jvm.ClassFile.Cond} {off a : Int} {t t2 : Nat} (hi : At_ k pc (.ifCond cn off) nx) (ht : (pc : Int) + off = (t : Int)) (h2 : t2 = if cnd cn a 0 = true then t else nx) (hN : SW p l e R s m args below meth c Q D dA A b t0 t1 ad0 n0 cb sb xs Ln k t2 ls st g h) : SW p l e R s m args below meth c Q D dA A b t0 t1 ad0 n0 cb sb xs Ln k pc ls (xI a :: st) g h := by
  obtain ⟨n, hd, rfl, hln⟩ := hi
  have hln : n = 3 := by simpa [fln] using hln
  subst hln
  have hx := F.1
  have hb := F.2.1
  intro ad H locs cells slots L hW hst hls hlen hlv had hn hP hD hS hc hs2
  have ha : in32 a := okV_hd hst
  have hst2 := okV_tl hst
  have K := hN ad H locs cells slots L hW hst2 hls hlen hlv had hn hP hD hS hc hs2
  subst h2
  cases cn
  · refine lv_if_eq hx hb hd ht (fun q => ?_) (fun q => ?_)
    · have q2 : a = 0 := (o32_inj ha in32_0).mp q
      simpa [cnd, q2] using K
    · have q2 : ¬ (a = 0) := fun z => q ((o32_inj ha in32_0).mpr z)
      simpa [cnd, q2] using K
  · refine lv_if_ne hx hb hd ht (fun q => ?_) (fun q => ?_)
    · have q2 : ¬ (a = 0) := fun z => q ((o32_inj ha in32_0).mpr z)
      simpa [cnd, q2] using K
    · have q2 : a = 0 := (o32_inj ha in32_0).mp q
      simpa [cnd, q2] using K
  · refine lv_if_lt hx hb hd ht (fun q => ?_) (fun q => ?_)
    · have q2 : a < 0 := (o32_lt ha in32_0).mp q
      simpa [cnd, q2] using K
    · have q2 : ¬ (a < 0) := fun z => q ((o32_lt ha in32_0).mpr z)
      simpa [cnd, q2] using K
  · refine lv_if_ge hx hb hd ht (fun q => ?_) (fun q => ?_)
    · have q2 : 0 ≤ a := (o32_le in32_0 ha).mp q
      simpa [cnd, q2] using K
    · have q2 : ¬ (0 ≤ a) := fun z => q ((o32_le in32_0 ha).mpr z)
      simpa [cnd, q2] using K
  · refine lv_if_gt hx hb hd ht (fun q => ?_) (fun q => ?_)
    · have q2 : 0 < a := (o32_lt in32_0 ha).mp q
      simpa [cnd, q2] using K
    · have q2 : ¬ (0 < a) := fun z => q ((o32_lt in32_0 ha).mpr z)
      simpa [cnd, q2] using K
  · refine lv_if_le hx hb hd ht (fun q => ?_) (fun q => ?_)
    · have q2 : a ≤ 0 := (o32_le ha in32_0).mp q
      simpa [cnd, q2] using K
    · have q2 : ¬ (a ≤ 0) := fun z => q ((o32_le ha in32_0).mpr z)
      simpa [cnd, q2] using K
theorem sw_icmp (F : Fr p R s m args meth c D dA A b t0 t1 xs Ln k d) {cn : Jvm.ClassFile.Cond} {off a a2 : Int} {t t2 : Nat} (hi : At_ k pc (.if_icmp cn off) nx) (ht : (pc : Int) + off = (t : Int)) (h2 : t2 = if cnd cn a a2 = true then t else nx) (hN : SW p l e R s m args below meth c Q D dA A b t0 t1 ad0 n0 cb sb xs Ln k t2 ls st g h) : SW p l e R s m args below meth c Q D dA A b t0 t1 ad0 n0 cb sb xs Ln k pc ls (xI a2 :: xI a :: st) g h := by
  obtain ⟨n, hd, rfl, hln⟩ := hi
  have hln : n = 3 := by simpa [fln] using hln
  subst hln
  have hx := F.1
  have hb := F.2.1
  intro ad H locs cells slots L hW hst hls hlen hlv had hn hP hD hS hc hs2
  have ha : in32 a := okV_hd (okV_tl hst)
  have ha2 : in32 a2 := okV_hd hst
  have hst2 := okV_tl (okV_tl hst)
  have K := hN ad H locs cells slots L hW hst2 hls hlen hlv had hn hP hD hS hc hs2
  subst h2
  cases cn
  · refine lv_icmp_eq hx hb hd ht (fun q => ?_) (fun q => ?_)
    · have q2 : a = a2 := (o32_inj ha ha2).mp q
      simpa [cnd, q2] using K
    · have q2 : ¬ (a = a2) := fun z => q ((o32_inj ha ha2).mpr z)
      simpa [cnd, q2] using K
  · refine lv_icmp_ne hx hb hd ht (fun q => ?_) (fun q => ?_)
    · have q2 : ¬ (a = a2) := fun z => q ((o32_inj ha ha2).mpr z)
      simpa [cnd, q2] using K
    · have q2 : a = a2 := (o32_inj ha ha2).mp q
      simpa [cnd, q2] using K
  · refine lv_icmp_lt hx hb hd ht (fun q => ?_) (fun q => ?_)
    · have q2 : a < a2 := (o32_lt ha ha2).mp q
      simpa [cnd, q2] using K
    · have q2 : ¬ (a < a2) := fun z => q ((o32_lt ha ha2).mpr z)
      simpa [cnd, q2] using K
  · refine lv_icmp_ge hx hb hd ht (fun q => ?_) (fun q => ?_)
    · have q2 : a2 ≤ a := (o32_le ha2 ha).mp q
      simpa [cnd, q2] using K
    · have q2 : ¬ (a2 ≤ a) := fun z => q ((o32_le ha2 ha).mpr z)
      simpa [cnd, q2] using K
  · refine lv_icmp_gt hx hb hd ht (fun q => ?_) (fun q => ?_)
    · have q2 : a2 < a := (o32_lt ha2 ha).mp q
      simpa [cnd, q2] using K
    · have q2 : ¬ (a2 < a) := fun z => q ((o32_lt ha2 ha).mpr z)
      simpa [cnd, q2] using K
  · refine lv_icmp_le hx hb hd ht (fun q => ?_) (fun q => ?_)
    · have q2 : a ≤ a2 := (o32_le ha ha2).mp q
      simpa [cnd, q2] using K
    · have q2 : ¬ (a ≤ a2) := fun z => q ((o32_le ha ha2).mpr z)
      simpa [cnd, q2] using K
theorem lksw_off : ∀ (ps : List (Int × Int)) (df x : Int), Op.lookupswitch.offset ps df x = lksw ps x df := by
  intro ps df x
  induction ps with
  | nil => rfl
  | cons q l ih =>
    obtain ⟨a, o⟩ := q
    rw [Op.lookupswitch.offset_cons, lksw, ih]
    by_cases q : x = a
    · subst q
      simp
    · simp [q, Ne.symm q]
end STEP2
