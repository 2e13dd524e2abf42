/-! STEPS, third: fields, arrays, new cells, switches, the machine's own members. -/
theorem rv_ref {ad : Int → Nat} {a : Int} (h : a ≠ -1) : rv ad (xR a) = .ref (ad a) := by simp [rv, h]
theorem okW_lt {xs : Nat → Int32} {Ln : Nat} {g : KG} {h : KH} {a : Int} (hW : okW xs Ln g h) (hk : 0 ≤ gK g a) (hk2 : gK g a ≠ 20) : 0 ≤ a ∧ a < gN g := by
  rcases hW.2.1 a hk with q | q
  · rw [q] at hk2; exact absurd hW.2.2.2.1 hk2
  · exact q
theorem okW_d {xs : Nat → Int32} {Ln : Nat} {g : KG} {h : KH} {a : Int} (hW : okW xs Ln g h) (h0 : 0 ≤ a) (h1 : a < gN g) (j : Int) : dok g (gK g a) j (h a j) := (hW.2.2.1 a h0 h1).2.2 j
theorem okW_l {xs : Nat → Int32} {Ln : Nat} {g : KG} {h : KH} {a : Int} (hW : okW xs Ln g h) (h0 : 0 ≤ a) (h1 : a < gN g) : 0 ≤ gL g a ∧ gL g a ≤ 60000 := (hW.2.2.1 a h0 h1).2.1
theorem dok_fld {g : KG} {ci j : Nat} {a v : Int} (hk : gK g a = (ci : Int)) (hc : ci < 13) : dok g (gK g a) (j : Nat) v ↔ tok g (fty ci j) v := by
  unfold dok
  rw [if_pos (by rw [hk]; omega)]
  have e : (gK g a).toNat = ci := by rw [hk]; rfl
  rw [e, Int.toNat_natCast]
theorem dok_20 {g : KG} {c j v : Int} (h : c = 20) : dok g c j v ↔ in32 v := by unfold dok; rw [if_neg (by omega), if_neg (by omega), if_neg (by omega), if_neg (by omega), if_neg (by omega)]
theorem dok_21 {g : KG} {c j v : Int} (h : c = 21) : dok g c j v ↔ in64 v := by unfold dok; rw [if_neg (by omega), if_pos h]
theorem dok_22 {g : KG} {c j v : Int} (h : c = 22) : dok g c j v ↔ -128 ≤ v ∧ v ≤ 127 := by unfold dok; rw [if_neg (by omega), if_neg (by omega), if_pos h]
theorem dok_23 {g : KG} {c j v : Int} (h : c = 23) : dok g c j v ↔ 0 ≤ v ∧ v ≤ 1 := by unfold dok; rw [if_neg (by omega), if_neg (by omega), if_neg (by omega), if_pos h]
theorem dok_24 {g : KG} {c j v : Int} (h : 24 ≤ c) : dok g c j v ↔ okR g v := by unfold dok; rw [if_neg (by omega), if_neg (by omega), if_neg (by omega), if_neg (by omega), if_pos h]
theorem okV_push {g : KG} {t : Nat} {v : Int} (ht : t ≤ 3) (h : tok g t v) : okV g (xpush t v) := by
  match t, ht with
  | 0, _ => exact h
  | 1, _ => exact h
  | 2, _ => exact h
  | 3, _ =>
    have h2 : 0 ≤ v ∧ v ≤ 1 := h
    show in32 v
    unfold in32; omega
theorem rv_push {ad : Int → Nat} {t : Nat} {v : Int} (ht : t ≤ 3) : rv ad (xpush t v) = rf ad t v := by
  match t, ht with
  | 0, _ => rfl
  | 1, _ => rfl
  | 2, _ => rfl
  | 3, _ => rfl
theorem ty_le {ci j : Nat} (hc : ci < 13) (hj : j < nfl ci) : fty ci j ≤ 3 := (tb_ty ci hc j hj).2.2.2.2.2
section STEP3
variable {p : Program} {l : Launch} {e : Env} {R : Room} {s : State} {m : MethodId} {args : Array Value} {below : List Frame} {meth : Method} {c : Code} {Q : State → Prop} {D : va_G} {dA : Nat → ClassId} {A : Nat → Prop} {b t0 t1 : Nat} {ad0 : Int → Nat} {n0 cb sb : Int} {xs : Nat → Int32} {Ln : Nat} {k d pc nx : Nat} {ls st : List KV} {g : KG} {h : KH}
theorem sw_getfield (F : Fr p R s m args meth c D dA A b t0 t1 xs Ln k d) {i ci j t : Nat} {a : Int} (hi : At_ k pc (.getfield i) nx) (hf : fld (mcls k) i = some (ci, j, t)) (hk : gK g a = (ci : Nat)) (hN : SW p l e R s m args below meth c Q D dA A b t0 t1 ad0 n0 cb sb xs Ln k nx ls (xpush t (h a (j : Nat)) :: st) g h) : SW p l e R s m args below meth c Q D dA A b t0 t1 ad0 n0 cb sb xs Ln k pc ls (xR a :: st) g h := by
  obtain ⟨n, hd, rfl, hln⟩ := hi
  have hln : n = 3 := by simpa [fln] using hln
  subst hln
  have hx := F.1
  have hb := F.2.1
  intro ad H locs cells slots L hW hst hls hlen hlv had hn hP hD hS hc hs2
  obtain ⟨f1, f2, f3, f4, f5, f6⟩ := fld_in hf
  obtain ⟨r, r1, r2, r3, r4⟩ := tb_cls ci f2
  obtain ⟨a0, a1⟩ := okW_lt hW (by rw [hk]; omega) (by rw [hk]; omega)
  subst f4
  have hle := ty_le f2 f3
  have K := hN ad H locs cells slots L hW (okV_cons (okV_push hle ((dok_fld hk f2).mp (okW_d hW a0 a1 _))) (okV_tl hst)) hls hlen hlv had hn hP hD hS hc hs2
  rw [List.map_cons, rv_push hle] at K
  rw [List.map_cons, rv_ref (by omega)]
  have hat := wl_at (dA := dA) (ad := ad) (g := g) (h := h) a0 a1
  rw [cel_obj hk f2] at hat
  exact va_get (C := r.1) (T := r.2.1) (N := r.2.2) (ref := (fT ci j).1) hx hb F.2.2.2.2.2.1 (tb_wg ci f2 r r1) F.2.2.2.1 F.2.2.2.2.2.2.1 hP a.toNat hat r1 j (by rw [r3]; exact f3) (by rw [r4 j f3]; exact F.2.2.2.2.2.1 _ (lg f1 rfl)) (fun x hx => by rw [r4 j f3] at hx; rw [r4 j f3]; exact hx) (fs_at f3) hd K
/-- a field is written -/
theorem put_go {i ci j t : Nat} {a : Int} {v : KV} {x : Int} (F : Fr p R s m args meth c D dA A b t0 t1 xs Ln k d) (hd : decode (mcode k) pc = .ok (.putfield i, 3)) (hf : fld (mcls k) i = some (ci, j, t)) (hk : gK g a = (ci : Nat)) (hv : v = xpush t x) (ho : tok g t x) (hfin : ffi ci j = false ∨ (minit k = true ∧ mcls k = ci)) (hN : SW p l e R s m args below meth c Q D dA A b t0 t1 ad0 n0 cb sb xs Ln k (pc + 3) ls st g (hset h a (j : Nat) x)) : SW p l e R s m args below meth c Q D dA A b t0 t1 ad0 n0 cb sb xs Ln k pc ls (v :: xR a :: st) g h := by
  have hx := F.1
  have hb := F.2.1
  intro ad H locs cells slots L hW hst hls hlen hlv had hn hP hD hS hc hs2
  obtain ⟨f1, f2, f3, f4, f5, f6⟩ := fld_in hf
  obtain ⟨r, r1, r2, r3, r4⟩ := tb_cls ci f2
  obtain ⟨a0, a1⟩ := okW_lt hW (by rw [hk]; omega) (by rw [hk]; omega)
  subst f4
  have hle := ty_le f2 f3
  obtain ⟨y1, y2, y3, y4, y5, y6⟩ := tb_ty ci f2 j f3
  subst hv
  rw [List.map_cons, List.map_cons, rv_push hle, rv_ref (show a ≠ -1 by omega)]
  have hat := wl_at (dA := dA) (ad := ad) (g := g) (h := h) a0 a1
  rw [cel_obj hk f2] at hat
  have hnf : narrow (tyX ci j) (rf ad (fty ci j) x) = rf ad (fty ci j) x ∧ fits (tyX ci j) (rf ad (fty ci j) x) = true := by
    generalize fty ci j = t at *
    match t, hle with
    | 0, _ => rw [y3 rfl]; exact ⟨rfl, rfl⟩
    | 1, _ => rw [y2 rfl]; exact ⟨rfl, rfl⟩
    | 2, _ =>
      have q := y5 rfl
      have hr : rf ad 2 x = .null ∨ ∃ z, rf ad 2 x = .ref z := by
        show rv ad (xR x) = .null ∨ ∃ z, rv ad (xR x) = .ref z
        by_cases z : x = -1
        · left; simp [rv, z]
        · right; exact ⟨_, rv_ref z⟩
      cases hty : tyX ci j with
      | object C => rcases hr with e | ⟨z, e⟩ <;> rw [e] <;> exact ⟨rfl, rfl⟩
      | array C => rcases hr with e | ⟨z, e⟩ <;> rw [e] <;> exact ⟨rfl, rfl⟩
      | _ => rw [hty] at q; cases q
    | 3, _ =>
      rw [y4 rfl]
      have h2 : 0 ≤ x ∧ x ≤ 1 := ho
      have : x = 0 ∨ x = 1 := by omega
      rcases this with rfl | rfl <;> exact ⟨rfl, rfl⟩
  have hset2 := wl_set (dA := dA) (ad := ad) (g := g) (h := h) (h1 := hset h a (j : Nat) x) a0 a1 hset_ne
  rw [cel_obj hk f2, ← fs_set f3] at hset2
  have hlen2 : j < ((List.range (nfl ci)).map fun j => rf ad (fty ci j) (h a (j : Nat))).length := by rw [List.length_map, List.length_range]; exact f3
  have KK : ∀ (H1 : Heap) (locs1 : List Loc), va_P D vwC ((wl dA ad g h).set a.toNat (ad a, .inr (ci, ((List.range (nfl ci)).map fun j => rf ad (fty ci j) (h a (j : Nat))).set j (rf ad (fty ci j) x)))) H1 → va_D A ((wl dA ad g h).set a.toNat (ad a, .inr (ci, ((List.range (nfl ci)).map fun j => rf ad (fty ci j) (h a (j : Nat))).set j (rf ad (fty ci j) x)))) → va_S A s.heap H1 locs1 → W p l e R s m args below meth c H1 locs1 cells slots Q (F0 m (pc + 3) L (st.map (rv ad))) := by
    intro H1 locs1 p1 p2 p3
    rw [hset2] at p1 p2
    exact hN ad H1 locs1 cells slots L (okW_set hW a0 ((dok_fld hk f2).mpr ho)) (okV_tl (okV_tl hst)) hls hlen hlv had hn p1 p2 p3 hc hs2
  have ap : ∀ x, x < r.2.2 → ∀ y, y < r.2.2 → x ≠ y → (r.2.1 x).2.1 ≠ (r.2.1 y).2.1 := by
    rw [r3]
    intro x hx y hy hne
    rw [r4 x hx, r4 y hy]
    exact tb_ap ci f2 x hx y hy hne
  have ty0 : ∀ x, x < r.2.2 → parseFieldDescriptor (r.2.1 x).2.2.1 = some (tyX ci x) := by
    rw [r3]
    intro x hx
    rw [r4 x hx]
    exact (tb_ty ci f2 x hx).1
  by_cases hff : ffi ci j = false
  · exact va_put (C := r.1) (T := r.2.1) (N := r.2.2) (ref := (fT ci j).1) hx hb F.2.2.2.2.2.1 (tb_wg ci f2 r r1) (tyX ci) ty0 ap F.2.2.2.1 F.2.2.2.2.2.2.1 hP hD hS a.toNat hat r1 j (by rw [r3]; exact f3) (by rw [r4 j f3]; exact F.2.2.2.2.2.1 _ (lg f1 rfl)) (fun x hx => by rw [r4 j f3] at hx; rw [r4 j f3]; exact hx) (by rw [r4 j f3, f6]; exact hff) (by rw [r4 j f3]; exact y1) hnf.1 hnf.2 hlen2 hd KK
  · obtain ⟨z1, z2⟩ := hfin.resolve_left hff
    exact va_putF (C := r.1) (T := r.2.1) (N := r.2.2) (ref := (fT ci j).1) hx hb F.2.2.2.2.2.1 (tb_wg ci f2 r r1) (tyX ci) ty0 ap F.2.2.2.1 F.2.2.2.2.2.2.1 hP hD hS a.toNat hat r1 j (by rw [r3]; exact f3) (by rw [r4 j f3]; exact F.2.2.2.2.2.1 _ (lg f1 rfl)) (fun x hx => by rw [r4 j f3] at hx; rw [r4 j f3]; exact hx) (by rw [r4 j f3, f6]; cases q : ffi ci j with | true => rfl | false => exact absurd q hff) (F.2.2.2.2.1 z1) (by rw [r4 j f3, f5, z2]) (by rw [r4 j f3]; exact y1) hnf.1 hnf.2 hlen2 hd KK
theorem sw_iaload (F : Fr p R s m args meth c D dA A b t0 t1 xs Ln k d) {a i : Int} (hi : At_ k pc (.iaload) nx) (hk : gK g a = 20) (h0 : 0 ≤ i) (h1 : i < gL g a) (hN : SW p l e R s m args below meth c Q D dA A b t0 t1 ad0 n0 cb sb xs Ln k nx ls (xI (h a i) :: st) g h) : SW p l e R s m args below meth c Q D dA A b t0 t1 ad0 n0 cb sb xs Ln k pc ls (xI i :: xR a :: st) g h := by
  obtain ⟨n, hd, rfl, hln⟩ := hi
  have hln : n = 1 := by simpa [fln] using hln
  subst hln
  have hx := F.1
  have hb := F.2.1
  intro ad H locs cells slots L hW hst hls hlen hlv had hn hP hD hS hc hs2
  have hi32 : in32 i := okV_hd hst
  rcases hW.2.1 a (by omega) with q | ⟨a0, a1⟩
  · subst q
    obtain ⟨x1, x2, x3, -⟩ := F.2.2.2.2.2.2.2.2.1
    have hl : i < (Ln : Int) := by rw [← hW.2.2.2.2.1]; exact h1
    have hv := hW.2.2.2.2.2.1 i.toNat (by omega)
    have e : ((i.toNat : Nat) : Int) = i := by omega
    rw [e] at hv
    have K := hN ad H locs cells slots L hW (okV_cons (by rw [hv]; show in32 _; unfold in32; have := (xs i.toNat).toInt_lt; have := (xs i.toNat).le_toInt; omega) (okV_tl (okV_tl hst))) hls hlen hlv had hn hP hD hS hc hs2
    rw [List.map_cons, List.map_cons, rv_ref (by decide), had.1]
    refine va_sld hx hb x1 x2 x3 hS (o32_vp hi32 h0 hl) hd ?_
    rw [o32_clamp hi32 h0]
    have e2 : rv ad (xI (h (-4) i)) = .int (xs i.toNat) := by
      show Value.int (Int32.ofInt (h (-4) i)) = _
      rw [hv, Int32.ofInt_toInt]
    rw [List.map_cons, e2] at K
    exact K
  · have K := hN ad H locs cells slots L hW (okV_cons ((dok_20 hk).mp (okW_d hW a0 a1 i)) (okV_tl (okV_tl hst))) hls hlen hlv had hn hP hD hS hc hs2
    have hat := wl_at (dA := dA) (ad := ad) (g := g) (h := h) a0 a1
    rw [cel_int (Or.inl hk), hk] at hat
    rw [List.map_cons, List.map_cons, rv_ref (by omega)]
    refine va_iald hx hb F.2.2.2.2.2.2.1 hP a.toNat 0 hat rfl (o32_vp hi32 h0 (by have := (okW_l hW a0 a1).1; omega)) hd ?_
    rw [o32_clamp hi32 h0]
    have e : ((i.toNat : Nat) : Int) = i := by omega
    rw [e]
    exact K
theorem sw_laload (F : Fr p R s m args meth c D dA A b t0 t1 xs Ln k d) {a i : Int} (hi : At_ k pc (.laload) nx) (hk : gK g a = 21) (h0 : 0 ≤ i) (h1 : i < gL g a) (hN : SW p l e R s m args below meth c Q D dA A b t0 t1 ad0 n0 cb sb xs Ln k nx ls (xL (h a i) :: st) g h) : SW p l e R s m args below meth c Q D dA A b t0 t1 ad0 n0 cb sb xs Ln k pc ls (xI i :: xR a :: st) g h := by
  obtain ⟨n, hd, rfl, hln⟩ := hi
  have hln : n = 1 := by simpa [fln] using hln
  subst hln
  have hx := F.1
  have hb := F.2.1
  intro ad H locs cells slots L hW hst hls hlen hlv had hn hP hD hS hc hs2
  have hi32 : in32 i := okV_hd hst
  obtain ⟨a0, a1⟩ := okW_lt hW (show 0 ≤ gK g a by omega) (by omega)
  have K := hN ad H locs cells slots L hW (okV_cons ((dok_21 hk).mp (okW_d hW a0 a1 i)) (okV_tl (okV_tl hst))) hls hlen hlv had hn hP hD hS hc hs2
  have hat := wl_at (dA := dA) (ad := ad) (g := g) (h := h) a0 a1
  rw [cel_long hk] at hat
  rw [List.map_cons, List.map_cons, rv_ref (by omega)]
  refine va_lald hx hb F.2.2.2.2.2.2.1 hP a.toNat 1 hat rfl (o32_vp hi32 h0 (by have := (okW_l hW a0 a1).1; omega)) hd ?_
  rw [o32_clamp hi32 h0]
  have e : ((i.toNat : Nat) : Int) = i := by omega
  rw [e]
  exact K
theorem sw_baload (F : Fr p R s m args meth c D dA A b t0 t1 xs Ln k d) {a i : Int} (hi : At_ k pc (.baload) nx) (hk : gK g a = 22 ∨ gK g a = 23) (h0 : 0 ≤ i) (h1 : i < gL g a) (hN : SW p l e R s m args below meth c Q D dA A b t0 t1 ad0 n0 cb sb xs Ln k nx ls (xI (h a i) :: st) g h) : SW p l e R s m args below meth c Q D dA A b t0 t1 ad0 n0 cb sb xs Ln k pc ls (xI i :: xR a :: st) g h := by
  obtain ⟨n, hd, rfl, hln⟩ := hi
  have hln : n = 1 := by simpa [fln] using hln
  subst hln
  have hx := F.1
  have hb := F.2.1
  intro ad H locs cells slots L hW hst hls hlen hlv had hn hP hD hS hc hs2
  have hi32 : in32 i := okV_hd hst
  obtain ⟨a0, a1⟩ := okW_lt hW (show 0 ≤ gK g a by omega) (by omega)
  have e : ((i.toNat : Nat) : Int) = i := by omega
  have hat := wl_at (dA := dA) (ad := ad) (g := g) (h := h) a0 a1
  rw [cel_int (Or.inr hk)] at hat
  rcases hk with hk | hk
  · have K := hN ad H locs cells slots L hW (okV_cons (by have := (dok_22 hk).mp (okW_d hW a0 a1 i); unfold okV in32; omega) (okV_tl (okV_tl hst))) hls hlen hlv had hn hP hD hS hc hs2
    rw [hk] at hat
    rw [List.map_cons, List.map_cons, rv_ref (by omega)]
    refine va_bald hx hb F.2.2.2.2.2.2.1 hP a.toNat 2 hat rfl (o32_vp hi32 h0 (by have := (okW_l hW a0 a1).1; omega)) hd ?_
    rw [o32_clamp hi32 h0, e]
    exact K
  · have K := hN ad H locs cells slots L hW (okV_cons (by have := (dok_23 hk).mp (okW_d hW a0 a1 i); unfold okV in32; omega) (okV_tl (okV_tl hst))) hls hlen hlv had hn hP hD hS hc hs2
    rw [hk] at hat
    rw [List.map_cons, List.map_cons, rv_ref (by omega)]
    refine va_zald hx hb F.2.2.2.2.2.2.1 hP a.toNat 3 hat rfl (o32_vp hi32 h0 (by have := (okW_l hW a0 a1).1; omega)) hd ?_
    rw [o32_clamp hi32 h0, e]
    exact K
theorem sw_aaload (F : Fr p R s m args meth c D dA A b t0 t1 xs Ln k d) {a i : Int} (hi : At_ k pc (.aaload) nx) (hk : gK g a = 24 ∨ gK g a = 25) (h0 : 0 ≤ i) (h1 : i < gL g a) (hN : SW p l e R s m args below meth c Q D dA A b t0 t1 ad0 n0 cb sb xs Ln k nx ls (xR (h a i) :: st) g h) : SW p l e R s m args below meth c Q D dA A b t0 t1 ad0 n0 cb sb xs Ln k pc ls (xI i :: xR a :: st) g h := by
  obtain ⟨n, hd, rfl, hln⟩ := hi
  have hln : n = 1 := by simpa [fln] using hln
  subst hln
  have hx := F.1
  have hb := F.2.1
  intro ad H locs cells slots L hW hst hls hlen hlv had hn hP hD hS hc hs2
  have hi32 : in32 i := okV_hd hst
  obtain ⟨a0, a1⟩ := okW_lt hW (show 0 ≤ gK g a by omega) (by omega)
  have e : ((i.toNat : Nat) : Int) = i := by omega
  have hat := wl_at (dA := dA) (ad := ad) (g := g) (h := h) a0 a1
  rw [cel_ref hk] at hat
  have K := hN ad H locs cells slots L hW (okV_cons ((dok_24 (by omega)).mp (okW_d hW a0 a1 i)) (okV_tl (okV_tl hst))) hls hlen hlv had hn hP hD hS hc hs2
  rw [List.map_cons, List.map_cons, rv_ref (by omega)]
  rw [List.map_cons, ← ro_rf] at K
  rcases hk with hk | hk
  · rw [hk] at hat
    refine va_aldq hx hb F.2.2.2.2.2.2.1 hP a.toNat 4 hat rfl (o32_vp hi32 h0 (by have := (okW_l hW a0 a1).1; omega)) hd ?_
    rw [o32_clamp hi32 h0, e]
    exact K
  · rw [hk] at hat
    refine va_aldq hx hb F.2.2.2.2.2.2.1 hP a.toNat 5 hat rfl (o32_vp hi32 h0 (by have := (okW_l hW a0 a1).1; omega)) hd ?_
    rw [o32_clamp hi32 h0, e]
    exact K
theorem sw_iastore (F : Fr p R s m args meth c D dA A b t0 t1 xs Ln k d) {a i v : Int} (hi : At_ k pc (.iastore) nx) (hk : gK g a = 20) (ha : 0 ≤ a) (h0 : 0 ≤ i) (h1 : i < gL g a) (hN : SW p l e R s m args below meth c Q D dA A b t0 t1 ad0 n0 cb sb xs Ln k nx ls st g (hset h a i v)) : SW p l e R s m args below meth c Q D dA A b t0 t1 ad0 n0 cb sb xs Ln k pc ls (xI v :: xI i :: xR a :: st) g h := by
  obtain ⟨n, hd, rfl, hln⟩ := hi
  have hln : n = 1 := by simpa [fln] using hln
  subst hln
  have hx := F.1
  have hb := F.2.1
  intro ad H locs cells slots L hW hst hls hlen hlv had hn hP hD hS hc hs2
  have hi32 : in32 i := okV_hd (okV_tl hst)
  have hv32 : in32 v := okV_hd hst
  have a0 : 0 ≤ a := ha
  have a1 : a < gN g := ((hW.2.1 a (by omega)).resolve_left (by omega)).2
  have hat := wl_at (dA := dA) (ad := ad) (g := g) (h := h) a0 a1
  have hset2 := wl_set (dA := dA) (ad := ad) (g := g) (h := h) (h1 := hset h a i v) a0 a1 hset_ne
  have hvp := o32_vp hi32 h0 (show i < ((gL g a).toNat : Nat) by have := (okW_l hW a0 a1).1; omega)
  have hlo := (okW_l hW a0 a1)
  rw [cel_int (Or.inl hk), hk] at hat
  rw [cel_int (Or.inl hk), hk] at hset2
  rw [List.map_cons, List.map_cons, List.map_cons, rv_ref (by omega)]
  refine va_iast hx hb F.2.2.2.2.2.2.1 hP hD hS a.toNat 0 hat rfl hvp hd (fun H1 locs1 p1 p2 p3 => ?_)
  have e : (upd (fun j : Nat => Int32.ofInt (h a (j : Nat))) (Int32.ofInt i).toNatClampNeg (Int32.ofInt v)) = fun j : Nat => Int32.ofInt (hset h a i v a (j : Nat)) := by
    funext j
    rw [o32_clamp hi32 h0]
    unfold upd hset
    by_cases q : j = i.toNat
    · rw [if_pos q, if_pos ⟨rfl, by omega⟩]
    · rw [if_neg q, if_neg (fun z => q (by omega))]
  rw [e, hset2] at p1 p2
  exact hN ad H1 locs1 cells slots L (okW_set hW a0 ((dok_20 hk).mpr hv32)) (okV_tl (okV_tl (okV_tl hst))) hls hlen hlv had hn p1 p2 p3 hc hs2
theorem sw_lastore (F : Fr p R s m args meth c D dA A b t0 t1 xs Ln k d) {a i v : Int} (hi : At_ k pc (.lastore) nx) (hk : gK g a = 21) (h0 : 0 ≤ i) (h1 : i < gL g a) (hN : SW p l e R s m args below meth c Q D dA A b t0 t1 ad0 n0 cb sb xs Ln k nx ls st g (hset h a i v)) : SW p l e R s m args below meth c Q D dA A b t0 t1 ad0 n0 cb sb xs Ln k pc ls (xL v :: xI i :: xR a :: st) g h := by
  obtain ⟨n, hd, rfl, hln⟩ := hi
  have hln : n = 1 := by simpa [fln] using hln
  subst hln
  have hx := F.1
  have hb := F.2.1
  intro ad H locs cells slots L hW hst hls hlen hlv had hn hP hD hS hc hs2
  have hi32 : in32 i := okV_hd (okV_tl hst)
  have hv32 : in64 v := okV_hd hst
  obtain ⟨a0, a1⟩ := okW_lt hW (show 0 ≤ gK g a by omega) (by omega)
  have hat := wl_at (dA := dA) (ad := ad) (g := g) (h := h) a0 a1
  have hset2 := wl_set (dA := dA) (ad := ad) (g := g) (h := h) (h1 := hset h a i v) a0 a1 hset_ne
  have hvp := o32_vp hi32 h0 (show i < ((gL g a).toNat : Nat) by have := (okW_l hW a0 a1).1; omega)
  have hlo := (okW_l hW a0 a1)
  rw [cel_long hk] at hat
  rw [cel_long hk] at hset2
  rw [List.map_cons, List.map_cons, List.map_cons, rv_ref (by omega)]
  refine va_last hx hb F.2.2.2.2.2.2.1 hP hD hS a.toNat 1 hat rfl hvp hd (fun H1 locs1 p1 p2 p3 => ?_)
  have e : (vp_updL (fun j : Nat => Int64.ofInt (h a (j : Nat))) (Int32.ofInt i).toNatClampNeg (Int64.ofInt v)) = fun j : Nat => Int64.ofInt (hset h a i v a (j : Nat)) := by
    funext j
    rw [o32_clamp hi32 h0]
    unfold vp_updL hset
    by_cases q : j = i.toNat
    · rw [if_pos q, if_pos ⟨rfl, by omega⟩]
    · rw [if_neg q, if_neg (fun z => q (by omega))]
  rw [e, hset2] at p1 p2
  exact hN ad H1 locs1 cells slots L (okW_set hW a0 ((dok_21 hk).mpr hv32)) (okV_tl (okV_tl (okV_tl hst))) hls hlen hlv had hn p1 p2 p3 hc hs2
theorem sw_bastore (F : Fr p R s m args meth c D dA A b t0 t1 xs Ln k d) {a i v : Int} (hi : At_ k pc (.bastore) nx) (hk : (gK g a = 22 ∧ -128 ≤ v ∧ v ≤ 127) ∨ (gK g a = 23 ∧ 0 ≤ v ∧ v ≤ 1)) (h0 : 0 ≤ i) (h1 : i < gL g a) (hN : SW p l e R s m args below meth c Q D dA A b t0 t1 ad0 n0 cb sb xs Ln k nx ls st g (hset h a i v)) : SW p l e R s m args below meth c Q D dA A b t0 t1 ad0 n0 cb sb xs Ln k pc ls (xI v :: xI i :: xR a :: st) g h := by
  obtain ⟨n, hd, rfl, hln⟩ := hi
  have hln : n = 1 := by simpa [fln] using hln
  subst hln
  have hx := F.1
  have hb := F.2.1
  intro ad H locs cells slots L hW hst hls hlen hlv had hn hP hD hS hc hs2
  have hi32 : in32 i := okV_hd (okV_tl hst)
  have hv32 : in32 v := okV_hd hst
  obtain ⟨a0, a1⟩ := okW_lt hW (show 0 ≤ gK g a by omega) (by omega)
  have hat := wl_at (dA := dA) (ad := ad) (g := g) (h := h) a0 a1
  have hset2 := wl_set (dA := dA) (ad := ad) (g := g) (h := h) (h1 := hset h a i v) a0 a1 hset_ne
  have hvp := o32_vp hi32 h0 (show i < ((gL g a).toNat : Nat) by have := (okW_l hW a0 a1).1; omega)
  have hlo := (okW_l hW a0 a1)
  rw [cel_int (by omega)] at hat
  rw [cel_int (by omega)] at hset2
  rw [List.map_cons, List.map_cons, List.map_cons, rv_ref (by omega)]
  rcases hk with ⟨hk, v0, v1⟩ | ⟨hk, v0, v1⟩
  · rw [hk] at hat hset2
    refine va_bast hx hb F.2.2.2.2.2.2.1 hP hD hS a.toNat 2 hat rfl hvp hd (fun H1 locs1 p1 p2 p3 => ?_)
    have en : vp_nar .byte (Int32.ofInt v) = Int32.ofInt v := by
      rw [vp_nar_byte, (o_i2b hv32).1]
      apply o32_eq
      have : w8 v = v := by unfold w8; omega
      rw [this]
    have e : (upd (fun j : Nat => Int32.ofInt (h a (j : Nat))) (Int32.ofInt i).toNatClampNeg (vp_nar .byte (Int32.ofInt v))) = fun j : Nat => Int32.ofInt (hset h a i v a (j : Nat)) := by
      rw [en]
      exact (by
        funext j
        rw [o32_clamp hi32 h0]
        unfold upd hset
        by_cases q : j = i.toNat
        · rw [if_pos q, if_pos ⟨rfl, by omega⟩]
        · rw [if_neg q, if_neg (fun z => q (by omega))])
    rw [e, hset2] at p1 p2
    exact hN ad H1 locs1 cells slots L (okW_set hW a0 ((dok_22 hk).mpr ⟨v0, v1⟩)) (okV_tl (okV_tl (okV_tl hst))) hls hlen hlv had hn p1 p2 p3 hc hs2
  · rw [hk] at hat hset2
    refine va_zast hx hb F.2.2.2.2.2.2.1 hP hD hS a.toNat 3 hat rfl hvp hd (fun H1 locs1 p1 p2 p3 => ?_)
    have en : vp_nar .boolean (Int32.ofInt v) = Int32.ofInt v := by
      have : v = 0 ∨ v = 1 := by omega
      rcases this with rfl | rfl <;> rfl
    have e : (upd (fun j : Nat => Int32.ofInt (h a (j : Nat))) (Int32.ofInt i).toNatClampNeg (vp_nar .boolean (Int32.ofInt v))) = fun j : Nat => Int32.ofInt (hset h a i v a (j : Nat)) := by
      rw [en]
      exact (by
        funext j
        rw [o32_clamp hi32 h0]
        unfold upd hset
        by_cases q : j = i.toNat
        · rw [if_pos q, if_pos ⟨rfl, by omega⟩]
        · rw [if_neg q, if_neg (fun z => q (by omega))])
    rw [e, hset2] at p1 p2
    exact hN ad H1 locs1 cells slots L (okW_set hW a0 ((dok_23 hk).mpr ⟨v0, v1⟩)) (okV_tl (okV_tl (okV_tl hst))) hls hlen hlv had hn p1 p2 p3 hc hs2
theorem sw_aastore (F : Fr p R s m args meth c D dA A b t0 t1 xs Ln k d) {a i v : Int} (hi : At_ k pc (.aastore) nx) (hk : (gK g a = 24 ∧ gK g v = 10) ∨ (gK g a = 25 ∧ gK g v = 7)) (h0 : 0 ≤ i) (h1 : i < gL g a) (hN : SW p l e R s m args below meth c Q D dA A b t0 t1 ad0 n0 cb sb xs Ln k nx ls st g (hset h a i v)) : SW p l e R s m args below meth c Q D dA A b t0 t1 ad0 n0 cb sb xs Ln k pc ls (xR v :: xI i :: xR a :: st) g h := by
  obtain ⟨n, hd, rfl, hln⟩ := hi
  have hln : n = 1 := by simpa [fln] using hln
  subst hln
  have hx := F.1
  have hb := F.2.1
  intro ad H locs cells slots L hW hst hls hlen hlv had hn hP hD hS hc hs2
  have hi32 : in32 i := okV_hd (okV_tl hst)
  obtain ⟨a0, a1⟩ := okW_lt hW (show 0 ≤ gK g a by omega) (by omega)
  obtain ⟨v0, v1⟩ := okW_lt hW (show 0 ≤ gK g v by omega) (by omega)
  have hat := wl_at (dA := dA) (ad := ad) (g := g) (h := h) a0 a1
  have hvt := wl_at (dA := dA) (ad := ad) (g := g) (h := h) v0 v1
  have hset2 := wl_set (dA := dA) (ad := ad) (g := g) (h := h) (h1 := hset h a i v) a0 a1 hset_ne
  have hvp := o32_vp hi32 h0 (show i < ((gL g a).toNat : Nat) by have := (okW_l hW a0 a1).1; omega)
  rw [cel_ref (by omega)] at hat
  rw [cel_ref (by omega)] at hset2
  rw [List.map_cons, List.map_cons, List.map_cons, rv_ref (show a ≠ -1 by omega), rv_ref (show v ≠ -1 by omega)]
  have e : (va_up (fun j : Nat => ro ad (h a (j : Nat))) (Int32.ofInt i).toNatClampNeg (some (ad v))) = fun j : Nat => ro ad (hset h a i v a (j : Nat)) := by
    funext j
    rw [o32_clamp hi32 h0]
    unfold va_up hset
    by_cases q : j = i.toNat
    · rw [if_pos q, if_pos ⟨rfl, by omega⟩]; unfold ro; rw [if_neg (by omega)]
    · rw [if_neg q, if_neg (fun z => q (by omega))]
  rcases hk with ⟨hk, hk2⟩ | ⟨hk, hk2⟩
  · rw [hk] at hat hset2
    rw [cel_obj (ci := 10) hk2 (by decide)] at hvt
    refine va_astq (r := (RX10, TX10, 3)) hx hb F.2.2.2.2.2.2.1 hP hD hS a.toNat 4 v.toNat 10 hat rfl hvt rfl hvp hd (fun H1 locs1 p1 p2 p3 => ?_)
    rw [e, hset2] at p1 p2
    exact hN ad H1 locs1 cells slots L (okW_set hW a0 ((dok_24 (by omega)).mpr (okV_hd hst))) (okV_tl (okV_tl (okV_tl hst))) hls hlen hlv had hn p1 p2 p3 hc hs2
  · rw [hk] at hat hset2
    rw [cel_obj (ci := 7) hk2 (by decide)] at hvt
    refine va_astq (r := (RX7, TX7, 12)) hx hb F.2.2.2.2.2.2.1 hP hD hS a.toNat 5 v.toNat 7 hat rfl hvt rfl hvp hd (fun H1 locs1 p1 p2 p3 => ?_)
    rw [e, hset2] at p1 p2
    exact hN ad H1 locs1 cells slots L (okW_set hW a0 ((dok_24 (by omega)).mpr (okV_hd hst))) (okV_tl (okV_tl (okV_tl hst))) hls hlen hlv had hn p1 p2 p3 hc hs2
theorem sw_alen (F : Fr p R s m args meth c D dA A b t0 t1 xs Ln k d) {a : Int} (hi : At_ k pc (.arraylength) nx) (hk : 20 ≤ gK g a) (hN : SW p l e R s m args below meth c Q D dA A b t0 t1 ad0 n0 cb sb xs Ln k nx ls (xI (gL g a) :: st) g h) : SW p l e R s m args below meth c Q D dA A b t0 t1 ad0 n0 cb sb xs Ln k pc ls (xR a :: st) g h := by
  obtain ⟨n, hd, rfl, hln⟩ := hi
  have hln : n = 1 := by simpa [fln] using hln
  subst hln
  have hx := F.1
  have hb := F.2.1
  intro ad H locs cells slots L hW hst hls hlen hlv had hn hP hD hS hc hs2
  rcases hW.2.1 a (by omega) with q | ⟨a0, a1⟩
  · subst q
    obtain ⟨x1, x2, x3, -⟩ := F.2.2.2.2.2.2.2.2.1
    have K := hN ad H locs cells slots L hW (okV_cons (by rw [hW.2.2.2.2.1]; have := hW.2.2.2.2.2.2; unfold okV in32; omega) (okV_tl hst)) hls hlen hlv had hn hP hD hS hc hs2
    rw [List.map_cons, rv_ref (by decide), had.1]
    refine va_slen hx hb x1 x2 x3 hS hd ?_
    have e2 : rv ad (xI (gL g (-4))) = .int (Int32.ofNat Ln) := by
      show Value.int (Int32.ofInt _) = _
      rw [hW.2.2.2.2.1]
      rfl
    rw [List.map_cons, e2] at K
    exact K
  · have hlo := okW_l hW a0 a1
    have hat := wl_at (dA := dA) (ad := ad) (g := g) (h := h) a0 a1
    have K := hN ad H locs cells slots L hW (okV_cons (by unfold okV in32; omega) (okV_tl hst)) hls hlen hlv had hn hP hD hS hc hs2
    rw [List.map_cons, rv_ref (by omega)]
    have e3 : Int32.ofNat (gL g a).toNat = Int32.ofInt (gL g a) := (o32_nat (by unfold in32; omega) hlo.1).symm
    have hkk := (hW.2.2.1 a a0 a1).1
    have h6 : gK g a = 20 ∨ gK g a = 21 ∨ gK g a = 22 ∨ gK g a = 23 ∨ gK g a = 24 ∨ gK g a = 25 := by omega
    rcases h6 with q | q | q | q | q | q
    · rw [cel_int (by omega), q] at hat
      exact va_alen hx hb F.2.2.2.2.2.2.1 hP a.toNat 0 hat rfl e3 hd K
    · rw [cel_long q] at hat
      exact va_alen hx hb F.2.2.2.2.2.2.1 hP a.toNat 1 hat rfl e3 hd K
    · rw [cel_int (by omega), q] at hat
      exact va_alen hx hb F.2.2.2.2.2.2.1 hP a.toNat 2 hat rfl e3 hd K
    · rw [cel_int (by omega), q] at hat
      exact va_alen hx hb F.2.2.2.2.2.2.1 hP a.toNat 3 hat rfl e3 hd K
    · rw [cel_ref (by omega), q] at hat
      exact va_alen hx hb F.2.2.2.2.2.2.1 hP a.toNat 4 hat rfl e3 hd K
    · rw [cel_ref (by omega), q] at hat
      exact va_alen hx hb F.2.2.2.2.2.2.1 hP a.toNat 5 hat rfl e3 hd K
end STEP3
