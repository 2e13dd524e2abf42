/-! STEPS, fifth: the machine's own members. -/
theorem wd_oi : Cond.code objectInit ⟨#[0xb1]⟩ 1 none ∈ lw_tbl := tm_1 (List.mem_of_getElem? (i := 28) rfl)
theorem wd_oi2 : Cond.instanceMethod objectInit ∈ lw_tbl := tm_1 (List.mem_of_getElem? (i := 27) rfl)
theorem wd_abs : Cond.code Lib.Math.abs.name Lib.Math.abs.code 1 (some .int) ∈ lw_tbl := tm_4 (List.mem_of_getElem? (i := 110) rfl)
theorem wd_abs2 : Cond.static Lib.Math.abs.name ∈ lw_tbl := tm_4 (List.mem_of_getElem? (i := 109) rfl)
theorem wd_max : Cond.code Lib.Math.max.name Lib.Math.max.code 2 (some .int) ∈ lw_tbl := tm_4 (List.mem_of_getElem? (i := 141) rfl)
theorem wd_max2 : Cond.static Lib.Math.max.name ∈ lw_tbl := tm_4 (List.mem_of_getElem? (i := 140) rfl)
theorem wd_min : Cond.code Lib.Math.min.name Lib.Math.min.code 2 (some .int) ∈ lw_tbl := tm_4 (List.mem_of_getElem? (i := 209) rfl)
theorem wd_min2 : Cond.static Lib.Math.min.name ∈ lw_tbl := tm_4 (List.mem_of_getElem? (i := 208) rfl)
theorem wd_math : Cond.initialized "java/lang/Math" ∈ lw_tbl := tm_1 (List.mem_of_getElem? (i := 15) rfl)
theorem wd_sys : Cond.initialized "java/lang/System" ∈ lw_tbl := tm_1 (List.mem_of_getElem? (i := 14) rfl)
theorem wd_cp1 : Cond.native arraycopyName ∈ lw_tbl := tm_3 (List.mem_of_getElem? (i := 28) rfl)
theorem wd_cp2 : Cond.static arraycopyName ∈ lw_tbl := tm_3 (List.mem_of_getElem? (i := 27) rfl)
theorem nfw : nativeFrameWords "java/lang/System" "arraycopy" 5 ≤ 60 := by decide +kernel
theorem cat_sum (ad : Int → Nat) (st : List KV) : ((st.map (rv ad)).map fun v => v.category).sum = (st.map catN).sum := by
  rw [List.map_map]
  congr 1
  exact List.map_congr_left (fun v _ => rv_cat ad v)
theorem hcopy_ne {h : KH} {a i b j n x : Int} (hx : x ≠ b) (k : Int) : hcopy h a i b j n x k = h x k := by unfold hcopy; rw [if_neg (fun q => hx q.1)]
theorem okW_copy {xs : Nat → Int32} {Ln : Nat} {g : KG} {h : KH} {a i b j n : Int} (hW : okW xs Ln g h) (hk : gK g a = 20 ∨ gK g a = 21) (hkb : gK g b = gK g a) (ha : 0 ≤ a) (ha1 : a < gN g) (hb : 0 ≤ b) : okW xs Ln g (hcopy h a i b j n) := by
  obtain ⟨w1, w2, w3, w4, w5, w6, w7⟩ := hW
  refine ⟨w1, w2, fun x x0 x1 => ⟨(w3 x x0 x1).1, (w3 x x0 x1).2.1, fun y => ?_⟩, w4, w5, fun y hy => ?_, w7⟩
  · unfold hcopy
    split
    · rename_i q
      rw [q.1, hkb]
      have := (w3 a ha ha1).2.2 (i + (y - j))
      rcases hk with hk | hk
      · rw [hk] at this ⊢; exact (dok_20 rfl).mpr ((dok_20 rfl).mp this)
      · rw [hk] at this ⊢; exact (dok_21 rfl).mpr ((dok_21 rfl).mp this)
    · exact (w3 x x0 x1).2.2 y
  · rw [hcopy_ne (by omega)]; exact w6 y hy
section STEP5
variable {p : Program} {l : Launch} {e : Env} {R : Room} {s : State} {m : MethodId} {args : Array Value} {below : List Frame} {meth : Method} {c : Code} {Q : State → Prop} {D : va_G} {dA : Nat → ClassId} {A : Nat → Prop} {b t0 t1 : Nat} {ad0 : Int → Nat} {n0 cb sb : Int} {xs : Nat → Int32} {Ln : Nat} {k d pc nx : Nat} {ls st : List KV} {g : KG} {h : KH}
theorem fr_hw {ad : Int → Nat} {v : KV} (F : Fr p R s m args meth c D dA A b t0 t1 xs Ln k d) (hw : ((v :: st).map catN).sum ≤ 300) : ((st.map (rv ad)).map fun v => v.category).sum + 100 ≤ R.locals ∧ 1 ≤ R.frames := by
  have h1 := F.2.2.2.2.2.2.2.2.2.1
  have h2 := F.2.2.2.2.2.2.2.2.2.2
  rw [cat_sum]
  simp only [List.map_cons, List.sum_cons] at hw
  omega
theorem sw_objinit (F : Fr p R s m args meth c D dA A b t0 t1 xs Ln k d) {i : Nat} {a : Int} (hi : At_ k pc (.invokespecial i) nx) (hit : itr (mcls k) i = some 0) (hw : ((xR a :: st).map catN).sum ≤ 300) (ha : 0 ≤ a) (hN : SW p l e R s m args below meth c Q D dA A b t0 t1 ad0 n0 cb sb xs Ln k nx ls st g h) : SW p l e R s m args below meth c Q D dA A b t0 t1 ad0 n0 cb sb xs Ln k pc ls (xR a :: st) g h := by
  obtain ⟨n1, hd, rfl, hln⟩ := hi
  have hln : n1 = 3 := by simpa [fln] using hln
  subst hln
  have hx := F.1
  have hb := F.2.1
  intro ad H locs cells slots L hW hst hls hlen hlv had hn hP hD hS hc hs2
  have hts := F.2.2.2.2.2.1
  have hh := fr_hw (ad := ad) F hw
  rw [List.map_cons, rv_ref (by omega)]
  refine W.objInit hx hb F.2.2.2.1 (hts _ (lg (itr_in hit) rfl)) (hts _ (lg wd_oi2 rfl)) (hts _ (lg wd_oi rfl)) rfl (by show L.size = _; rw [hlv.1, F.2.2.1]) rfl hd hh.2 (by show 2 * 0 + _ + 12 ≤ _; omega) ?_
  exact W.eq (g2 := F0 m (pc + 3) L (st.map (rv ad))) rfl (hN ad H locs cells slots L hW (okV_tl hst) hls hlen hlv had hn hP hD hS hc hs2)
theorem sw_abs (F : Fr p R s m args meth c D dA A b t0 t1 xs Ln k d) {i : Nat} {a : Int} (hi : At_ k pc (.invokestatic i) nx) (hit : itr (mcls k) i = some 1) (hw : ((xI a :: st).map catN).sum ≤ 300) (hcb : gC g - cb ≤ R.cells) (hsb : gS g - sb ≤ R.slots) (hN : SW p l e R s m args below meth c Q D dA A b t0 t1 ad0 n0 cb sb xs Ln k nx ls (xI (if 0 ≤ a then a else w32 (0 - a)) :: st) g h) : SW p l e R s m args below meth c Q D dA A b t0 t1 ad0 n0 cb sb xs Ln k pc ls (xI a :: st) g h := by
  obtain ⟨n1, hd, rfl, hln⟩ := hi
  have hln : n1 = 3 := by simpa [fln] using hln
  subst hln
  have hx := F.1
  have hb := F.2.1
  intro ad H locs cells slots L hW hst hls hlen hlv had hn hP hD hS hc hs2
  have hts := F.2.2.2.2.2.1
  have hh := fr_hw (ad := ad) F hw
  have ha : in32 a := okV_hd hst
  have hv : in32 (if 0 ≤ a then a else w32 (0 - a)) := by
    by_cases q : 0 ≤ a
    · rw [if_pos q]; exact ha
    · rw [if_neg q]; exact w32_in _
  have K := hN ad H locs cells slots L hW (okV_cons (v := xI _) hv (okV_tl hst)) hls hlen hlv had hn hP hD hS hc hs2
  refine va_mabs hx hb (by rw [hlv.1, F.2.2.1]) F.2.2.2.1 (hts _ (lg (itr_in hit) rfl)) (hts _ (lg wd_abs2 rfl)) (hts _ (lg wd_math rfl)) (hts _ (lg wd_abs rfl)) hh.2 (by omega) (by omega) (by omega) hd ?_
  have e1 : (if (0 : Int32) ≤ Int32.ofInt a then Int32.ofInt a else 0 - Int32.ofInt a) = Int32.ofInt (if 0 ≤ a then a else w32 (0 - a)) := by
    by_cases q : 0 ≤ a
    · rw [if_pos q, if_pos (show (0 : Int32) ≤ Int32.ofInt a from (o32_le in32_0 ha).mpr q)]
    · rw [if_neg q, if_neg (show ¬ (0 : Int32) ≤ Int32.ofInt a from fun z => q ((o32_le in32_0 ha).mp z))]
      exact o32_sub in32_0 ha
  rw [e1]
  exact K
theorem sw_max (F : Fr p R s m args meth c D dA A b t0 t1 xs Ln k d) {i : Nat} {a a2 : Int} (hi : At_ k pc (.invokestatic i) nx) (hit : itr (mcls k) i = some 2) (hw : ((xI a2 :: xI a :: st).map catN).sum ≤ 300) (hcb : gC g - cb ≤ R.cells) (hsb : gS g - sb ≤ R.slots) (hN : SW p l e R s m args below meth c Q D dA A b t0 t1 ad0 n0 cb sb xs Ln k nx ls (xI (if a < a2 then a2 else a) :: st) g h) : SW p l e R s m args below meth c Q D dA A b t0 t1 ad0 n0 cb sb xs Ln k pc ls (xI a2 :: xI a :: st) g h := by
  obtain ⟨n1, hd, rfl, hln⟩ := hi
  have hln : n1 = 3 := by simpa [fln] using hln
  subst hln
  have hx := F.1
  have hb := F.2.1
  intro ad H locs cells slots L hW hst hls hlen hlv had hn hP hD hS hc hs2
  have hts := F.2.2.2.2.2.1
  have hh := fr_hw (ad := ad) F hw
  simp only [List.map_cons, List.sum_cons] at hh
  have ha : in32 a := okV_hd (okV_tl hst)
  have ha2 : in32 a2 := okV_hd hst
  have K := hN ad H locs cells slots L hW (okV_cons (by show in32 _; split <;> assumption) (okV_tl (okV_tl hst))) hls hlen hlv had hn hP hD hS hc hs2
  refine va_mmax hx hb (by rw [hlv.1, F.2.2.1]) F.2.2.2.1 (hts _ (lg (itr_in hit) rfl)) (hts _ (lg wd_max2 rfl)) (hts _ (lg wd_math rfl)) (hts _ (lg wd_max rfl)) hh.2 (by omega) (by omega) (by omega) hd ?_
  have e1 : (if Int32.ofInt a < Int32.ofInt a2 then Int32.ofInt a2 else Int32.ofInt a) = Int32.ofInt (if a < a2 then a2 else a) := by
    by_cases q : a < a2
    · rw [if_pos q, if_pos ((o32_lt ha ha2).mpr q)]
    · rw [if_neg q, if_neg (fun z => q ((o32_lt ha ha2).mp z))]
  rw [e1]
  exact K
theorem sw_min (F : Fr p R s m args meth c D dA A b t0 t1 xs Ln k d) {i : Nat} {a a2 : Int} (hi : At_ k pc (.invokestatic i) nx) (hit : itr (mcls k) i = some 3) (hw : ((xI a2 :: xI a :: st).map catN).sum ≤ 300) (hcb : gC g - cb ≤ R.cells) (hsb : gS g - sb ≤ R.slots) (hN : SW p l e R s m args below meth c Q D dA A b t0 t1 ad0 n0 cb sb xs Ln k nx ls (xI (if a2 < a then a2 else a) :: st) g h) : SW p l e R s m args below meth c Q D dA A b t0 t1 ad0 n0 cb sb xs Ln k pc ls (xI a2 :: xI a :: st) g h := by
  obtain ⟨n1, hd, rfl, hln⟩ := hi
  have hln : n1 = 3 := by simpa [fln] using hln
  subst hln
  have hx := F.1
  have hb := F.2.1
  intro ad H locs cells slots L hW hst hls hlen hlv had hn hP hD hS hc hs2
  have hts := F.2.2.2.2.2.1
  have hh := fr_hw (ad := ad) F hw
  simp only [List.map_cons, List.sum_cons] at hh
  have ha : in32 a := okV_hd (okV_tl hst)
  have ha2 : in32 a2 := okV_hd hst
  have K := hN ad H locs cells slots L hW (okV_cons (by show in32 _; split <;> assumption) (okV_tl (okV_tl hst))) hls hlen hlv had hn hP hD hS hc hs2
  refine va_mmin hx hb (by rw [hlv.1, F.2.2.1]) F.2.2.2.1 (hts _ (lg (itr_in hit) rfl)) (hts _ (lg wd_min2 rfl)) (hts _ (lg wd_math rfl)) (hts _ (lg wd_min rfl)) hh.2 (by omega) (by omega) (by omega) hd ?_
  have e1 : (if Int32.ofInt a2 < Int32.ofInt a then Int32.ofInt a2 else Int32.ofInt a) = Int32.ofInt (if a2 < a then a2 else a) := by
    by_cases q : a2 < a
    · rw [if_pos q, if_pos ((o32_lt ha2 ha).mpr q)]
    · rw [if_neg q, if_neg (fun z => q ((o32_lt ha2 ha).mp z))]
  rw [e1]
  exact K
theorem sw_copy (F : Fr p R s m args meth c D dA A b t0 t1 xs Ln k d) {i0 : Nat} {a i a2 j n : Int} (hi : At_ k pc (.invokestatic i0) nx) (hit : itr (mcls k) i0 = some 4) (hw : ((xI n :: xI j :: xR a2 :: xI i :: xR a :: st).map catN).sum ≤ 300) (hk : gK g a = 20 ∨ gK g a = 21) (hk2 : gK g a2 = gK g a) (ha : 0 ≤ a) (ha2 : 0 ≤ a2) (h0 : 0 ≤ i) (h1 : 0 ≤ j) (h2 : 0 ≤ n) (h3 : i + n ≤ gL g a) (h4 : j + n ≤ gL g a2) (hN : SW p l e R s m args below meth c Q D dA A b t0 t1 ad0 n0 cb sb xs Ln k nx ls st g (hcopy h a i a2 j n)) : SW p l e R s m args below meth c Q D dA A b t0 t1 ad0 n0 cb sb xs Ln k pc ls (xI n :: xI j :: xR a2 :: xI i :: xR a :: st) g h := by
  obtain ⟨n1, hd, rfl, hln⟩ := hi
  have hln : n1 = 3 := by simpa [fln] using hln
  subst hln
  have hx := F.1
  have hb := F.2.1
  intro ad H locs cells slots L hW hst hls hlen hlv had hn hP hD hS hc hs2
  have hts := F.2.2.2.2.2.1
  have hh := fr_hw (ad := ad) F hw
  simp only [List.map_cons, List.sum_cons] at hh
  have hn32 : in32 n := okV_hd hst
  have hj32 : in32 j := okV_hd (okV_tl hst)
  have hi32 : in32 i := okV_hd (okV_tl (okV_tl (okV_tl hst)))
  have a1 : a < gN g := ((hW.2.1 a (by omega)).resolve_left (by omega)).2
  have b1 : a2 < gN g := ((hW.2.1 a2 (by omega)).resolve_left (by omega)).2
  have la := okW_l hW ha a1
  have lb := okW_l hW ha2 b1
  have ng : ∀ {z : Int}, in32 z → 0 ≤ z → ¬ Int32.ofInt z < 0 := fun hz h0 q => by have := (o32_lt hz in32_0).mp q; omega
  have hat := wl_at (dA := dA) (ad := ad) (g := g) (h := h) ha a1
  have hbt := wl_at (dA := dA) (ad := ad) (g := g) (h := h) ha2 b1
  have hset2 := wl_set (dA := dA) (ad := ad) (g := g) (h := h) (h1 := hcopy h a i a2 j n) ha2 b1 (fun x hx y => hcopy_ne hx y)
  have nf := nfw
  simp only [List.map_cons]
  rw [rv_ref (show a ≠ -1 by omega), rv_ref (show a2 ≠ -1 by omega)]
  have go : ∀ (H1 : Heap) (locs1 : List Loc), va_P D vwC (wl dA ad g (hcopy h a i a2 j n)) H1 → va_D A (wl dA ad g (hcopy h a i a2 j n)) → va_S A s.heap H1 locs1 → W p l e R s m args below meth c H1 locs1 cells slots Q (F0 m (pc + 3) L (st.map (rv ad))) := fun H1 locs1 p1 p2 p3 => hN ad H1 locs1 cells slots L (okW_copy hW hk hk2 ha a1 ha2) (okV_tl (okV_tl (okV_tl (okV_tl (okV_tl hst))))) hls hlen hlv had hn p1 p2 p3 hc hs2
  rcases hk with hk | hk
  · rw [hk] at hk2
    rw [cel_int (Or.inl hk), hk] at hat
    rw [cel_int (Or.inl hk2), hk2] at hbt hset2
    refine va_copyi hx hb (by rw [hlv.1, F.2.2.1]) F.2.2.2.1 (hts _ (lg (itr_in hit) rfl)) (hts _ (lg wd_cp1 rfl)) (hts _ (lg wd_cp2 rfl)) (hts _ (lg wd_sys rfl)) F.2.2.2.2.2.2.1 hP hD hS a.toNat a2.toNat 0 0 hat hbt rfl rfl rfl (ng hi32 h0) (ng hj32 h1) (ng hn32 h2) (by rw [o32_clamp hi32 h0, o32_clamp hn32 h2]; omega) (by rw [o32_clamp hj32 h1, o32_clamp hn32 h2]; omega) (fun _ _ => rfl) hh.2 (by omega) hd (fun H1 locs1 p1 p2 p3 => ?_)
    have e1 : va_cpy (fun x : Nat => Int32.ofInt (h a (x : Nat))) (fun x : Nat => Int32.ofInt (h a2 (x : Nat))) (Int32.ofInt i).toNatClampNeg (Int32.ofInt j).toNatClampNeg (Int32.ofInt n).toNatClampNeg = fun x : Nat => Int32.ofInt (hcopy h a i a2 j n a2 (x : Nat)) := by
      funext x
      rw [o32_clamp hi32 h0, o32_clamp hn32 h2, o32_clamp hj32 h1]
      unfold va_cpy hcopy
      by_cases q : j.toNat ≤ x ∧ x < j.toNat + n.toNat
      · rw [if_pos q, if_pos ⟨rfl, by omega, by omega⟩]
        have e : ((i.toNat + (x - j.toNat) : Nat) : Int) = i + ((x : Int) - j) := by omega
        show Int32.ofInt (h a ((i.toNat + (x - j.toNat) : Nat) : Int)) = _
        rw [e]
      · rw [if_neg q, if_neg (fun z => q ⟨by omega, by omega⟩)]
    rw [e1, hset2] at p1 p2
    exact go H1 locs1 p1 p2 p3
  · rw [hk] at hk2
    rw [cel_long hk] at hat
    rw [cel_long hk2] at hbt hset2
    refine va_copyl hx hb (by rw [hlv.1, F.2.2.1]) F.2.2.2.1 (hts _ (lg (itr_in hit) rfl)) (hts _ (lg wd_cp1 rfl)) (hts _ (lg wd_cp2 rfl)) (hts _ (lg wd_sys rfl)) F.2.2.2.2.2.2.1 hP hD hS a.toNat a2.toNat 1 1 hat hbt rfl rfl rfl (ng hi32 h0) (ng hj32 h1) (ng hn32 h2) (by rw [o32_clamp hi32 h0, o32_clamp hn32 h2]; omega) (by rw [o32_clamp hj32 h1, o32_clamp hn32 h2]; omega) (fun _ _ => rfl) hh.2 (by omega) hd (fun H1 locs1 p1 p2 p3 => ?_)
    have e1 : va_cpy (fun x : Nat => Int64.ofInt (h a (x : Nat))) (fun x : Nat => Int64.ofInt (h a2 (x : Nat))) (Int32.ofInt i).toNatClampNeg (Int32.ofInt j).toNatClampNeg (Int32.ofInt n).toNatClampNeg = fun x : Nat => Int64.ofInt (hcopy h a i a2 j n a2 (x : Nat)) := by
      funext x
      rw [o32_clamp hi32 h0, o32_clamp hn32 h2, o32_clamp hj32 h1]
      unfold va_cpy hcopy
      by_cases q : j.toNat ≤ x ∧ x < j.toNat + n.toNat
      · rw [if_pos q, if_pos ⟨rfl, by omega, by omega⟩]
        have e : ((i.toNat + (x - j.toNat) : Nat) : Int) = i + ((x : Int) - j) := by omega
        show Int64.ofInt (h a ((i.toNat + (x - j.toNat) : Nat) : Int)) = _
        rw [e]
      · rw [if_neg q, if_neg (fun z => q ⟨by omega, by omega⟩)]
    rw [e1, hset2] at p1 p2
    exact go H1 locs1 p1 p2 p3
end STEP5
