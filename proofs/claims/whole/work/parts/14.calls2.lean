/-! CALLS and the whole. -/
theorem mth_in {c i k2 n kd : Nat} (h : mth c i = some (k2, n, kd)) : k2 < 266 ∧ kd = (mpo k2).2.2.2.2.1 ∧ n = (mpo k2).2.2.2.2.2 + (if kd = 1 then 0 else 1) ∧ (kd ≠ 1 → mcls k2 < 13) ∧ (Cond.methodLink (cnm c) i (mnm k2) ∈ lw_tbl ∨ ∀ s, NW s → va_Nw (.methodLinkNest (cnm c) i (mnm k2) "KitchenSheets") s) := by
  unfold mth at h
  rw [Option.map_eq_some_iff] at h
  obtain ⟨e, he, h2⟩ := h
  obtain ⟨h1, rfl, rfl⟩ := find_in he
  have h3 := tb_mth _ h1
  have h4 := tb_mt2 _ h1
  obtain ⟨e1, e2, e3, e4, e5, e6, e7⟩ := e
  simp only [Prod.mk.injEq] at h2
  obtain ⟨rfl, rfl, rfl⟩ := h2
  refine ⟨h4.1, h4.2.1, h4.2.2.1, h4.2.2.2, ?_⟩
  simp only at h3
  by_cases q : e6 = 0
  · rw [if_pos q] at h3; exact Or.inl (List.mem_of_getElem? h3)
  · exact Or.inr (fun s hs => hs _ h1 q)
theorem rm_ok {R : Room} {e1 mc ms ml : Nat} (h1 : e1 + 1 + 8 ≤ R.frames) (h2 : 41 * (e1 + 1) + 400 ≤ R.locals) (h3 : ml ≤ 14) : (rmm e1 mc ms).frames + 1 ≤ R.frames ∧ 8 + (ml + 11) + (rmm e1 mc ms).locals ≤ R.locals := by
  unfold rmm
  simp only
  omega
theorem tb_ctor : ∀ k, k < 266 → (mpo k).2.2.2.2.1 = 2 → retT (mret k) = none := by decide +kernel
section GO
variable {p : Program} {l : Launch} {e : Env} {R : Room} {s : State} {m : MethodId} {args : Array Value} {below : List Frame} {meth : Method} {c : Code} {Q : State → Prop} {D : va_G} {dA : Nat → ClassId} {A : Nat → Prop} {b t0 t1 : Nat} {ad0 : Int → Nat} {n0 cb sb : Int} {xs : Nat → Int32} {Ln : Nat} {k d pc nx : Nat} {ls st : List KV} {g : KG} {h : KH}
theorem call_go {r : Option KV} {g1 : KG} {h1 : KH} {rest : List KV} {st0 : List Value} {a : Array Value} {ad : Int → Nat} {H : Heap} {locs : List Loc} {cells slots mc ms : Nat} {L : Array Slot} (hr : va_Run p l e R s m args below meth c H locs cells slots mc ms (F0 m pc L st0) (rest.map (rv ad)) (CQc D dA b t0 t1 xs Ln g h ad H.size r g1 h1 a) (va_A (wl dA ad g h) H.size))
    (hN : SW p l e R s m args below meth c Q D dA A b t0 t1 ad0 n0 cb sb xs Ln k (pc + 3) ls (r.toList ++ rest) g1 h1) (hrest : ∀ v ∈ rest, okV g v) (hls : ∀ v ∈ ls, v = xU ∨ okV g v) (hlen : ls.length = mloc k) (hlv : lvr ad ls L (mloc k)) (had : ad (-4) = b ∧ ad (-2) = t0 ∧ ad (-3) = t1) (hn : n0 ≤ gN g ∧ 0 ≤ n0 ∧ ∀ i, 0 ≤ i → i < n0 → ad i = ad0 i) (hg : gN g ≤ gN g1) (hD : va_D A (wl dA ad g h)) (hS : va_S A s.heap H locs) (hA : ∀ q, s.heap.size ≤ q → A q) (hc : (cells : Int) = gC g - cb) (hs2 : (slots : Int) = gS g - sb) (hmc : (mc : Int) = gC g1 - gC g) (hms : (ms : Int) = gS g1 - gS g) : W p l e R s m args below meth c H locs cells slots Q (F0 m pc L st0) := by
  intro T hT X
  obtain ⟨v, st₀, t, T', L1, h0, X', hL, e1, e2, ⟨ad1, hv, hext, hsp, hP1, hD1, hF, hW1, hrok⟩, hst⟩ := hr T hT X
  have hvr : v = r.map (rv ad1) := by injection hv
  subst hvr
  have hfree : ∀ q, va_A (wl dA ad g h) H.size q → A q := by
    intro q hq
    rcases hq with ⟨i, ee, hi⟩ | hq
    · exact hD.2 i (q, ee) hi
    · exact hA q (Nat.le_trans hS.1 hq)
  have hrv : ∀ v : KV, okV g v → rv ad1 v = rv ad v := by
    intro v hv
    rcases v with x | x | x | x
    · rfl
    · rfl
    · have hx : okR g x := hv
      unfold okR at hx
      show (if x = -1 then Value.null else .ref (ad1 x)) = (if x = -1 then Value.null else .ref (ad x))
      by_cases q : x = -1
      · rw [if_pos q, if_pos q]
      · have q2 : ad1 x = ad x := by
          have q3 : x = -4 ∨ x = -3 ∨ x = -2 ∨ (0 ≤ x ∧ x < gN g) := by omega
          rcases q3 with rfl | rfl | rfl | q3
          · rw [hsp.1, had.1]
          · rw [hsp.2.2, had.2.2]
          · rw [hsp.2.1, had.2.1]
          · exact hext x q3.1 q3.2
        rw [if_neg q, if_neg q, q2]
    · rfl
  unfold va_F at hF
  rw [h0] at hF
  obtain ⟨hz, hkk⟩ := hF
  have K := hN ad1 T'.heap (locs ++ L1) (cells + mc) (slots + ms) L hW1 (fun v hv => by
      rcases List.mem_append.mp hv with q | q
      · exact hrok v q
      · exact okV_mono hg (hrest v q)) (fun v hv => (hls v hv).imp id (okV_mono hg)) hlen (lvr_ad hlv (fun v hv hu => hrv v ((hls v hv).resolve_left hu))) hsp ⟨by have := hn.1; omega, hn.2.1, fun i i0 i1 => by rw [hext i i0 (by have := hn.1; omega)]; exact hn.2.2 i i0 i1⟩ (by rw [e1]; exact hP1) (hD1.weaken (fun _ q _ hq => hfree q.1 hq))
    ⟨Nat.le_trans hS.1 (by rw [e1]; exact hz), fun q q1 q2 => by rw [e1, hkk q (Nat.lt_of_lt_of_le q1 hS.1) (fun z => q2 (hfree q z))]; exact hS.2.1 q q1 q2, fun q hq => by
      rcases List.mem_append.mp hq with q1 | q1
      · exact hS.2.2 q q1
      · exact hfree _ (hL q q1)⟩ (by omega) (by omega)
  have est : (r.toList ++ rest).map (rv ad1) = (r.map (rv ad1)).toList ++ rest.map (rv ad) := by
    rw [List.map_append]
    congr 1
    · cases r <;> rfl
    · exact List.map_congr_left (fun v hv => hrv v (hrest v hv))
  rw [est] at K
  obtain ⟨t2, a1, b1⟩ := K T' rfl X'
  exact ⟨t2, hst t2 a1, b1⟩
theorem sw_call {f e1 : Nat} (IH : SoundF f) (F : Fr p R s m args meth c D dA A b t0 t1 xs Ln k (e1 + 1)) {ins : Instr} {k2 : Nat} {as rest : List KV} {r : Option KV} {g1 : KG} {h1 : KH} (hi : At_ k pc ins nx) (hcl : calls k ins st g = some (k2, as, rest)) (hx : exec f e1 k2 0 (mkl as (mloc k2)) [] g h = some (r, g1, h1)) (hgc : gC g ≤ gC g1) (hgs : gS g ≤ gS g1) (hgn : gN g ≤ gN g1) (hcb : gC g1 - cb ≤ R.cells) (hsb : gS g1 - sb ≤ R.slots) (hN : SW p l e R s m args below meth c Q D dA A b t0 t1 ad0 n0 cb sb xs Ln k nx ls (r.toList ++ rest) g1 h1) : SW p l e R s m args below meth c Q D dA A b t0 t1 ad0 n0 cb sb xs Ln k pc ls st g h := by
  obtain ⟨n1, hd, rfl, hln⟩ := hi
  unfold calls at hcl
  cases hcal : cal ins with
  | none => rw [hcal] at hcl; cases hcl
  | some q =>
  obtain ⟨kd, i⟩ := q
  rw [hcal] at hcl
  simp only at hcl
  cases hm : mth (mcls k) i with
  | none => rw [hm] at hcl; cases hcl
  | some q =>
  obtain ⟨k3, n, kd2⟩ := q
  rw [hm] at hcl
  simp only at hcl
  by_cases hcond : kd = kd2 ∧ n ≤ st.length ∧ ((st.drop n).map catN).sum ≤ 8 ∧ (lay (st.take n).reverse).length ≤ mloc k3
  case neg => rw [if_neg hcond] at hcl; cases hcl
  rw [if_pos hcond] at hcl
  obtain ⟨rfl, hnl, hw8, hlay⟩ := hcond
  have hform : k3 = k2 ∧ (st.take n).reverse = as ∧ st.drop n = rest ∧ (kd ≠ 1 → ∃ a tl, as = xR a :: tl ∧ gK g a = (mcls k2 : Nat)) := by
    by_cases q1 : kd = 1
    · rw [if_pos q1] at hcl
      simp only [Option.some.injEq, Prod.mk.injEq] at hcl
      exact ⟨hcl.1, hcl.2.1, hcl.2.2, fun z => absurd q1 z⟩
    · rw [if_neg q1] at hcl
      split at hcl
      · rename_i a tl hrev
        split at hcl
        · rename_i hk
          simp only [Option.some.injEq, Prod.mk.injEq] at hcl
          obtain ⟨rfl, ha, hb⟩ := hcl
          exact ⟨rfl, ha, hb, fun _ => ⟨a, tl, by rw [← ha, hrev], hk⟩⟩
        · cases hcl
      · cases hcl
  obtain ⟨rfl, has, hrest, hobj⟩ := hform
  obtain ⟨m1, m2, m3, m4, m5⟩ := mth_in hm
  obtain ⟨tn1, tn2, tn3, tn4, tn5, tn6, tn7, tn8⟩ := tb_nm k3 m1
  have hx0 := F.1
  have hb := F.2.1
  have hts := F.2.2.2.2.2.1
  intro ad H locs cells slots L hW hst hls hlen hlv had hn hP hD hS hc hs2
  have hsplit : st = as.reverse ++ rest := by rw [← has, ← hrest, List.reverse_reverse, List.take_append_drop]
  have okas : ∀ v ∈ as, okV g v := fun v hv => hst v (by rw [hsplit]; exact List.mem_append_left _ (List.mem_reverse.mpr hv))
  have okrest : ∀ v ∈ rest, okV g v := fun v hv => hst v (by rw [hsplit]; exact List.mem_append_right _ hv)
  obtain ⟨mc, hmc⟩ : ∃ mc : Nat, (mc : Int) = gC g1 - gC g := ⟨(gC g1 - gC g).toNat, by omega⟩
  obtain ⟨ms, hms⟩ : ∃ ms : Nat, (ms : Int) = gS g1 - gS g := ⟨(gS g1 - gS g).toNat, by omega⟩
  have hM := met_k IH m1 hx l D dA b t0 t1 xs Ln ad H.size mc ms hW okas (by rw [← has]; exact hlay) had hmc hms
  have hfr := F.2.2.2.2.2.2.2.2.2.1
  have hlo := F.2.2.2.2.2.2.2.2.2.2
  have hR : (rmm e1 mc ms).frames + 1 ≤ R.frames ∧ 8 + (mloc k3 + 11) + (rmm e1 mc ms).locals ≤ R.locals := rm_ok hfr hlo tn6
  have hfree : ∀ q, va_A (wl dA ad g h) H.size q → A q := by
    intro q hq
    rcases hq with ⟨i, ee, hi⟩ | hq
    · exact hD.2 i (q, ee) hi
    · exact F.2.2.2.2.2.2.2.1 q (Nat.le_trans hS.1 hq)
  have hpre : ∀ U : State, U.heap = H → s.WarmedH U.vm → CPc D dA b t0 t1 xs Ln as g h ad H.size (as.map (rv ad)).toArray U := fun U hU hWm => ⟨rfl, by rw [hU], by rw [hU]; exact hP, va_K.moved hWm.alike F.2.2.2.2.2.2.1, hD.weaken (fun _ _ _ _ => trivial), F.2.2.2.2.2.2.2.2.1.move hS hU hWm hfree⟩
  have hini : (Cond.initialized (mnm k3).cls).before args s = true := hts _ (lg (List.mem_of_getElem? (tb_init k3 m1)) rfl)
  have hkind := tb_kind k3 m1
  have hstk : st.map (rv ad) = (as.map (rv ad)).reverse ++ rest.map (rv ad) := by rw [hsplit, List.map_append, List.map_reverse]
  have hroom : 2 * (F0 m pc L (st.map (rv ad))).monitorRoom + ((rest.map (rv ad)).map fun v => v.category).sum ≤ 8 := lv_room (by rw [cat_sum, ← hrest]; exact hw8)
  have hS5 : CallFix p m c (mcode k) (mloc k) s args lgd (cnm (mcls k)) := ⟨hx0, hb, F.2.2.1, F.2.2.2.1, hts⟩
  have hf2 : cells + mc ≤ R.cells ∧ slots + ms ≤ R.slots := ⟨by omega, by omega⟩
  have hGI := wsk_in m1
  have hNW : NW s := by
    obtain ⟨-, -, -, -, -, adV, -, -, -, -, -, z⟩ := F.2.2.2.2.2.2.2.2.1
    exact z
  have hnl2 : n = as.length := by rw [← has, List.length_reverse, List.length_take, Nat.min_eq_left hnl]
  cases ins with
  | invokestatic i2 =>
    cases hcal
    have q1 : (mpo k3).2.2.2.2.1 = 1 := m2.symm
    rw [if_pos q1] at hkind
    have hstat : (Cond.static (mnm k3)).before args s = true := hts _ (lg (List.mem_of_getElem? hkind) rfl)
    have hln : n1 = 3 := by simpa [fln] using hln
    subst hln
    rw [if_pos rfl] at m3
    have hasl : (as.map (rv ad)).length = (mpo k3).2.2.2.2.2 := by rw [List.length_map]; omega
    rcases m5 with m5 | m5
    · have hT : GoodIn lgd (va_wsS (cnm (mcls k)) i (mnm k3) (wsk k3)) := by
        intro w hw
        unfold va_wsS at hw
        rcases List.mem_append.mp hw with hw | hw
        · rcases List.mem_cons.mp hw with rfl | hw
          · exact ⟨lg m5 rfl, lgd_good (lg m5 rfl)⟩
          · rcases List.mem_cons.mp hw with rfl | hw
            · have z := lg (List.mem_of_getElem? hkind) rfl
              exact ⟨z, lgd_good z⟩
            · rcases List.mem_cons.mp hw with rfl | hw
              · have z := lg (List.mem_of_getElem? (tb_init k3 m1)) rfl
                exact ⟨z, lgd_good z⟩
              · cases hw
        · exact hGI w hw
      exact call_go (va_runS hS5 hM (va_cwS _ hts hT rfl rfl rfl ⟨tn3, tn4, tn5⟩ hR) ⟨CPc.blind, hpre⟩ rfl hasl hlv.1 hstk hroom hd hf2) hN okrest hls hlen hlv had hn hgn hD hS F.2.2.2.2.2.2.2.1 hc hs2 hmc hms
    · exact call_go (va_runSN hS5 hM ⟨va_cnB _ hts hGI rfl rfl rfl (m5 s hNW) hini ⟨tn3, tn4, tn5⟩ hR, hstat, trivial⟩ ⟨CPc.blind, hpre⟩ rfl hasl hlv.1 hstk hroom hd hf2) hN okrest hls hlen hlv had hn hgn hD hS F.2.2.2.2.2.2.2.1 hc hs2 hmc hms
  | invokevirtual i2 =>
    cases hcal
    have q1 : (mpo k3).2.2.2.2.1 = 0 := m2.symm
    rw [if_neg (by rw [q1]; decide)] at hkind
    have hinst : (Cond.instanceMethod (mnm k3)).before args s = true := hts _ (lg (List.mem_of_getElem? hkind) rfl)
    have hsel := List.mem_of_getElem? (tb_sel k3 m1 q1)
    have hselb : (Cond.selects (mnm k3).cls (mnm k3) (mnm k3)).before args s = true := hts _ (lg hsel rfl)
    have hln : n1 = 3 := by simpa [fln] using hln
    subst hln
    obtain ⟨a, tl, rfl, hka⟩ := hobj (by decide)
    obtain ⟨a0, a1⟩ := okW_lt hW (show 0 ≤ gK g a by omega) (by have := m4 (by decide); omega)
    rw [if_neg (by decide)] at m3
    have hasl : (tl.map (rv ad)).length = (mpo k3).2.2.2.2.2 := by rw [List.length_map]; simp only [List.length_cons] at hnl2; omega
    have hrva : rv ad (xR a) = .ref (ad a) := rv_ref (by omega)
    have hmap : (xR a :: tl).map (rv ad) = .ref (ad a) :: tl.map (rv ad) := by rw [List.map_cons, hrva]
    rw [hmap] at hpre hstk
    have hstk2 : st.map (rv ad) = (tl.map (rv ad)).reverse ++ .ref (ad a) :: rest.map (rv ad) := by rw [hstk]; simp
    obtain ⟨r5, r51, r52, r53, r54⟩ := tb_cls (mcls k3) (m4 (by decide))
    have hat := wl_at (dA := dA) (ad := ad) (g := g) (h := h) a0 a1
    rw [cel_obj hka (m4 (by decide))] at hat
    have hrecv := va_recv F.2.2.2.2.2.2.1 hP r51 hat
    rw [r52, ← tn1] at hrecv
    rcases m5 with m5 | m5
    · have hT : GoodIn lgd (wsV (cnm (mcls k)) i (mnm k3).cls (mnm k3) (wsk k3)) := by
        intro w hw
        unfold wsV at hw
        rcases List.mem_append.mp hw with hw | hw
        · rcases List.mem_cons.mp hw with rfl | hw
          · exact ⟨lg m5 rfl, lgd_good (lg m5 rfl)⟩
          · rcases List.mem_cons.mp hw with rfl | hw
            · have z := lg (List.mem_of_getElem? hkind) rfl
              exact ⟨z, lgd_good z⟩
            · rcases List.mem_cons.mp hw with rfl | hw
              · exact ⟨lg hsel rfl, lgd_good (lg hsel rfl)⟩
              · rcases List.mem_cons.mp hw with rfl | hw
                · have z := lg (List.mem_of_getElem? (tb_init k3 m1)) rfl
                  exact ⟨z, lgd_good z⟩
                · cases hw
        · exact hGI w hw
      exact call_go (va_runV hS5 hM (cwV _ hts hT rfl rfl rfl ⟨rfl, tn3, tn4, tn5⟩ hR) ⟨CPc.blind, hrecv, hpre⟩ rfl hasl hlv.1 hstk2 hroom hd hf2) hN okrest hls hlen hlv had hn hgn hD hS F.2.2.2.2.2.2.2.1 hc hs2 hmc hms
    · exact call_go (va_runVN hS5 hM ⟨va_cnB _ hts hGI rfl rfl rfl (m5 s hNW) hini ⟨tn3, tn4, tn5⟩ hR, hinst, hselb⟩ ⟨CPc.blind, hrecv, hpre⟩ rfl hasl hlv.1 hstk2 hroom hd hf2) hN okrest hls hlen hlv had hn hgn hD hS F.2.2.2.2.2.2.2.1 hc hs2 hmc hms
  | invokespecial i2 =>
    cases hcal
    have q1 : (mpo k3).2.2.2.2.1 = 2 := m2.symm
    rw [if_neg (by rw [q1]; decide)] at hkind
    have hinst : (Cond.instanceMethod (mnm k3)).before args s = true := hts _ (lg (List.mem_of_getElem? hkind) rfl)
    have hname := tn7.mp q1
    have hln : n1 = 3 := by simpa [fln] using hln
    subst hln
    obtain ⟨a, tl, rfl, hka⟩ := hobj (by decide)
    obtain ⟨a0, a1⟩ := okW_lt hW (show 0 ≤ gK g a by omega) (by have := m4 (by decide); omega)
    rw [if_neg (by decide)] at m3
    have hasl : (tl.map (rv ad)).length = (mpo k3).2.2.2.2.2 := by rw [List.length_map]; simp only [List.length_cons] at hnl2; omega
    have hrva : rv ad (xR a) = .ref (ad a) := rv_ref (by omega)
    have hmap : (xR a :: tl).map (rv ad) = .ref (ad a) :: tl.map (rv ad) := by rw [List.map_cons, hrva]
    rw [hmap] at hpre hstk
    have hstk2 : st.map (rv ad) = (tl.map (rv ad)).reverse ++ .ref (ad a) :: rest.map (rv ad) := by rw [hstk]; simp
    have hret0 : retT (mret k3) = none := tb_ctor k3 m1 q1
    have hM2 := hM
    have hwe : wsk k3 = Cond.code (mnm k3) (mcode k3) (mloc k3) none :: lgd := by unfold wsk; rw [hret0]
    rcases m5 with m5 | m5
    · exact call_go (va_runI hS5 hM (cwI _ hts hGI hwe rfl rfl hini (hts _ (lg m5 rfl)) hinst hname ⟨tn3, tn4, tn5⟩ hR) ⟨CPc.blind, hpre⟩ rfl hasl hlv.1 hstk2 hroom hd hf2) hN okrest hls hlen hlv had hn hgn hD hS F.2.2.2.2.2.2.2.1 hc hs2 hmc hms
    · exact call_go (va_runIN hS5 hM ⟨va_cnB _ hts hGI hwe rfl rfl (m5 s hNW) hini ⟨tn3, tn4, tn5⟩ hR, hname, hinst⟩ ⟨CPc.blind, hpre⟩ rfl hasl hlv.1 hstk2 hroom hd hf2) hN okrest hls hlen hlv had hn hgn hD hS F.2.2.2.2.2.2.2.1 hc hs2 hmc hms
  | _ => cases hcal
end GO
