theorem js_coder : Cond.code yJ0_coder_7d493 cJ0_coder_7d493 1 (some .byte) ∈ lgd := lg (tm_6 (List.mem_of_getElem? (i := 126) rfl)) rfl
def jw_coder : List Cond := Cond.code yJ0_coder_7d493 cJ0_coder_7d493 1 (some .byte) :: lgd
theorem jg_coder : GoodIn lgd jw_coder := fun w hw => by
  rcases List.mem_cons.mp hw with rfl | hw
  · exact ⟨js_coder, good_of_word (List.mem_filter.mp js_coder).2⟩
  · exact ⟨hw, good_of_word (List.mem_filter.mp hw).2⟩
theorem js_isLatin1 : Cond.code yJ0_isLatin1_aae02 cJ0_isLatin1_aae02 1 (some .boolean) ∈ lgd := lg (tm_6 (List.mem_of_getElem? (i := 136) rfl)) rfl
def jw_isLatin1 : List Cond := Cond.code yJ0_isLatin1_aae02 cJ0_isLatin1_aae02 1 (some .boolean) :: lgd
theorem jg_isLatin1 : GoodIn lgd jw_isLatin1 := fun w hw => by
  rcases List.mem_cons.mp hw with rfl | hw
  · exact ⟨js_isLatin1, good_of_word (List.mem_filter.mp js_isLatin1).2⟩
  · exact ⟨hw, good_of_word (List.mem_filter.mp hw).2⟩
theorem js_length : Cond.code yJ0_length_8abf5 cJ0_length_8abf5 1 (some .int) ∈ lgd := lg (tm_6 (List.mem_of_getElem? (i := 122) rfl)) rfl
def jw_length : List Cond := Cond.code yJ0_length_8abf5 cJ0_length_8abf5 1 (some .int) :: lgd
theorem jg_length : GoodIn lgd jw_length := fun w hw => by
  rcases List.mem_cons.mp hw with rfl | hw
  · exact ⟨js_length, good_of_word (List.mem_filter.mp js_length).2⟩
  · exact ⟨hw, good_of_word (List.mem_filter.mp hw).2⟩
theorem js_charAt : Cond.code yJ0_charAt_5068e cJ0_charAt_5068e 2 (some .char) ∈ lgd := lg (tm_6 (List.mem_of_getElem? (i := 132) rfl)) rfl
def jw_charAt : List Cond := Cond.code yJ0_charAt_5068e cJ0_charAt_5068e 2 (some .char) :: lgd
theorem jg_charAt : GoodIn lgd jw_charAt := fun w hw => by
  rcases List.mem_cons.mp hw with rfl | hw
  · exact ⟨js_charAt, good_of_word (List.mem_filter.mp js_charAt).2⟩
  · exact ⟨hw, good_of_word (List.mem_filter.mp hw).2⟩
theorem js_ck : Cond.code yJ0_checkIndex_df160 cJ0_checkIndex_df160 2 none ∈ lgd := lg (tm_6 (List.mem_of_getElem? (i := 142) rfl)) rfl
def jw_ck : List Cond := Cond.code yJ0_checkIndex_df160 cJ0_checkIndex_df160 2 none :: lgd
theorem jg_ck : GoodIn lgd jw_ck := fun w hw => by
  rcases List.mem_cons.mp hw with rfl | hw
  · exact ⟨js_ck, good_of_word (List.mem_filter.mp js_ck).2⟩
  · exact ⟨hw, good_of_word (List.mem_filter.mp hw).2⟩
theorem js_lch : Cond.code yJ1_charAt_3b067 cJ1_charAt_3b067 2 (some .char) ∈ lgd := lg (tm_6 (List.mem_of_getElem? (i := 139) rfl)) rfl
def jw_lch : List Cond := Cond.code yJ1_charAt_3b067 cJ1_charAt_3b067 2 (some .char) :: lgd
theorem jg_lch : GoodIn lgd jw_lch := fun w hw => by
  rcases List.mem_cons.mp hw with rfl | hw
  · exact ⟨js_lch, good_of_word (List.mem_filter.mp js_lch).2⟩
  · exact ⟨hw, good_of_word (List.mem_filter.mp hw).2⟩
theorem js_pck : Cond.code yJ3_checkIndex_8e157 cJ3_checkIndex_8e157 3 (some .int) ∈ lgd := lg (tm_6 (List.mem_of_getElem? (i := 147) rfl)) rfl
def jw_pck : List Cond := Cond.code yJ3_checkIndex_8e157 cJ3_checkIndex_8e157 3 (some .int) :: lgd
theorem jg_pck : GoodIn lgd jw_pck := fun w hw => by
  rcases List.mem_cons.mp hw with rfl | hw
  · exact ⟨js_pck, good_of_word (List.mem_filter.mp js_pck).2⟩
  · exact ⟨hw, good_of_word (List.mem_filter.mp hw).2⟩
theorem jl_coder : Cond.methodLink RJ0 335 yJ0_coder_7d493 ∈ lgd := lg (tm_6 (List.mem_of_getElem? (i := 123) rfl)) rfl
theorem jl_lat : Cond.methodLink RJ0 492 yJ0_isLatin1_aae02 ∈ lgd := lg (tm_6 (List.mem_of_getElem? (i := 133) rfl)) rfl
theorem jl_lch : Cond.methodLink RJ0 495 yJ1_charAt_3b067 ∈ lgd := lg (tm_6 (List.mem_of_getElem? (i := 137) rfl)) rfl
theorem jl_ck : Cond.methodLink RJ1 9 yJ0_checkIndex_df160 ∈ lgd := lg (tm_6 (List.mem_of_getElem? (i := 140) rfl)) rfl
theorem jl_pck : Cond.methodLink RJ0 1059 yJ3_checkIndex_8e157 ∈ lgd := lg (tm_6 (List.mem_of_getElem? (i := 145) rfl)) rfl
theorem jf_val : Cond.fieldLink RJ0 9 "java/lang/String" "value" "[B" ∈ lgd := lg (tm_8 (List.mem_of_getElem? (i := 31) rfl)) rfl
theorem jf_cs : Cond.fieldLink RJ0 38 "java/lang/String" "COMPACT_STRINGS" "Z" ∈ lgd := lg (tm_6 (List.mem_of_getElem? (i := 127) rfl)) rfl
theorem jf_cod : Cond.fieldLink RJ0 15 "java/lang/String" "coder" "B" ∈ lgd := lg (tm_8 (List.mem_of_getElem? (i := 32) rfl)) rfl
theorem jf_fmt : Cond.fieldLink RJ0 1053 "jdk/internal/util/Preconditions" "SIOOBE_FORMATTER" "Ljava/util/function/BiFunction;" ∈ lgd := lg (tm_6 (List.mem_of_getElem? (i := 143) rfl)) rfl
theorem ji_coder : Cond.instanceMethod yJ0_coder_7d493 ∈ lgd := lg (tm_6 (List.mem_of_getElem? (i := 124) rfl)) rfl
theorem jse_coder : Cond.selects RJ0 yJ0_coder_7d493 yJ0_coder_7d493 ∈ lgd := lg (tm_6 (List.mem_of_getElem? (i := 125) rfl)) rfl
theorem ji_isLatin1 : Cond.instanceMethod yJ0_isLatin1_aae02 ∈ lgd := lg (tm_6 (List.mem_of_getElem? (i := 134) rfl)) rfl
theorem jse_isLatin1 : Cond.selects RJ0 yJ0_isLatin1_aae02 yJ0_isLatin1_aae02 ∈ lgd := lg (tm_6 (List.mem_of_getElem? (i := 135) rfl)) rfl
theorem ji_length : Cond.instanceMethod yJ0_length_8abf5 ∈ lgd := lg (tm_6 (List.mem_of_getElem? (i := 120) rfl)) rfl
theorem jse_length : Cond.selects RJ0 yJ0_length_8abf5 yJ0_length_8abf5 ∈ lgd := lg (tm_6 (List.mem_of_getElem? (i := 121) rfl)) rfl
theorem ji_charAt : Cond.instanceMethod yJ0_charAt_5068e ∈ lgd := lg (tm_6 (List.mem_of_getElem? (i := 130) rfl)) rfl
theorem jse_charAt : Cond.selects RJ0 yJ0_charAt_5068e yJ0_charAt_5068e ∈ lgd := lg (tm_6 (List.mem_of_getElem? (i := 131) rfl)) rfl
theorem ji_ck : Cond.static yJ0_checkIndex_df160 ∈ lgd := lg (tm_6 (List.mem_of_getElem? (i := 141) rfl)) rfl
theorem ji_lch : Cond.static yJ1_charAt_3b067 ∈ lgd := lg (tm_6 (List.mem_of_getElem? (i := 138) rfl)) rfl
theorem ji_pck : Cond.static yJ3_checkIndex_8e157 ∈ lgd := lg (tm_6 (List.mem_of_getElem? (i := 146) rfl)) rfl
theorem jn_RJ0 : Cond.initialized RJ0 ∈ lgd := lg (tm_1 (List.mem_of_getElem? (i := 16) rfl)) rfl
theorem jn_RJ1 : Cond.initialized RJ1 ∈ lgd := lg (tm_1 (List.mem_of_getElem? (i := 17) rfl)) rfl
theorem jn_RJ3 : Cond.initialized RJ3 ∈ lgd := lg (tm_1 (List.mem_of_getElem? (i := 18) rfl)) rfl
def TXS (t0 t1 : Nat) (U : State) : Prop := (∃ adV : Nat → Nat, vk_S 2 txLen txByt (fun i => if i = 0 then t0 else t1) adV (fun _ => False) U U.heap) ∧ va_Z RJ0 "COMPACT_STRINGS" "Z" (.int 1) (fun _ => False) U U.heap ∧ va_Zq RJ3 "SIOOBE_FORMATTER" "Ljava/util/function/BiFunction;" (fun _ => False) U U.heap
theorem TXS.blind {t0 t1 : Nat} {av : List Value} : FrameBlind (va_Pc av (TXS t0 t1)) := by
  intro a U fr mk ⟨h1, ⟨adV, h2⟩, h3, h4⟩
  have hal : U.vm.Alike (U.calling fr mk a).vm := Vm.Alike.refl U.vm
  exact ⟨h1, ⟨adV, h2.moved hal⟩, h3.moved hal, h4.moved hal⟩
theorem TXS.move {t0 t1 : Nat} {s U : State} (h : TXS t0 t1 s) (hU : U.heap = s.heap) (hW : s.WarmedH U.vm) : TXS t0 t1 U := by
  obtain ⟨⟨adV, h2⟩, h3, h4⟩ := h
  have hal := hW.alike
  have hk : ∀ a : Nat, a < s.heap.size → ¬ False → U.heap[a]? = s.heap[a]? := fun a _ _ => by rw [hU]
  exact ⟨⟨adV, (h2.kept hk).moved hal⟩, (h3.kept hk).moved hal, (h4.kept hk).moved hal⟩
def rmj (f : Nat) : Room := { frames := f, cells := 0, slots := 0, locals := 30 * f }
theorem tx_ok : ∀ i, i < 2 → (txLen.getD i 0 = (txByt.getD i []).length ∧ ∀ b ∈ txByt.getD i [], ((b &&& 255).toUInt32 % 65536).toInt32 = b ∧ narrow .char (.int b) = .int b) := by decide +kernel
theorem tx_len : ∀ i, i < 2 → txLen.getD i 0 < 100 := by decide +kernel
theorem tx_sh : ∀ i, i < 2 → Int32.ofNat (txLen.getD i 0) >>> ((0 : Int32) &&& 31) = Int32.ofNat (txLen.getD i 0) := by decide +kernel
set_option maxHeartbeats 4000000 in
set_option maxRecDepth 100000 in
theorem jm_coder (l : Launch) (t0 t1 : Nat) (i : Nat) (hi : i < 2) : Met l yJ0_coder_7d493 jw_coder (rmj 1) (va_Pc [.ref (if i = 0 then t0 else t1)] (TXS t0 t1)) (vp_Si (fun r => r = 0)) 0 0 (fun _ => False) := by
  refine Met.ofW (cc := cJ0_coder_7d493) (maxL := 1) (ret := (some .byte)) (by decide +kernel) rfl ?_
  intro p e s m args below meth c s₁ B hml hv
  obtain ⟨rfl, hT⟩ := hv
  have hx := B.exec
  have hb := B.bytes
  have hr := B.returns
  have hts0 := atoms_spec (ws := jw_coder) B.pre
  have hts : ∀ w ∈ lgd, w.before _ s = true := fun w hw => hts0 w (List.mem_cons_of_mem _ hw)
  have hown : s.vm.findClass RJ0 = some m.cls := findClass_of_methodNamed B.named
  have hlocks := B.notSynchronized
  have hS : va_S (fun _ => False) s.heap s.heap [] := va_S.rf
  have hT2 := hT
  obtain ⟨⟨adV, hK⟩, hZ, hF⟩ := hT2
  have hS5 : CallFix p m c cJ0_coder_7d493 1 s _ lgd RJ0 := ⟨hx, hb, hml, hown, hts⟩
  rw [lg_entry_eq]
  have hl := lv_entry [.ref (if i = 0 then t0 else t1)] (n := 1) (Nat.le_of_ble_eq_true rfl)
  generalize (lg_sl [.ref (if i = 0 then t0 else t1)] ++ List.replicate (1 - (lg_sl [.ref (if i = 0 then t0 else t1)]).length) Slot.unset).toArray = ls at hl ⊢
  have hl : lv_has ls 1 [(0, .ref (if i = 0 then t0 else t1))] := hl
  obtain ⟨k1, k2, k3, k4⟩ := hK.1 i hi
  refine va_gets hx hb hZ hS hown (hts _ jf_cs) (fun _ h => h) (show decode cJ0_coder_7d493 0 = .ok (.getstatic 38, 3) by decide +kernel) ?_
  refine lv_if_eq (tgt := 13) hx hb (show decode cJ0_coder_7d493 3 = .ok (.ifCond .eq 10, 3) by decide +kernel) (by decide) (fun q => absurd q (by decide)) (fun _ => ?_)
  refine lv_aload_n hx hb (show decode cJ0_coder_7d493 6 = .ok (.aload_n 0, 1) by decide +kernel) rfl (lv_at hl 0 rfl) ?_
  refine vk_getf hx hb k2 hS hown (hts _ jf_cod) (fun _ h => h) (show decode cJ0_coder_7d493 7 = .ok (.getfield 15, 3) by decide +kernel) ?_
  refine lv_goto (tgt := 14) hx hb (show decode cJ0_coder_7d493 10 = .ok (.goto 4, 3) by decide +kernel) (by decide) ?_
  exact W.zret (ty := .byte) hx hb hr rfl (fun t ht _ => ⟨0, rfl, rfl, ht⟩) (fun _ h => by cases h) (show decode cJ0_coder_7d493 14 = .ok (.ireturn, 1) by decide +kernel)
set_option maxHeartbeats 4000000 in
set_option maxRecDepth 100000 in
theorem jm_isLatin1 (l : Launch) (t0 t1 : Nat) (i : Nat) (hi : i < 2) : Met l yJ0_isLatin1_aae02 jw_isLatin1 (rmj 1) (va_Pc [.ref (if i = 0 then t0 else t1)] (TXS t0 t1)) (vp_Si (fun r => r = 1)) 0 0 (fun _ => False) := by
  refine Met.ofW (cc := cJ0_isLatin1_aae02) (maxL := 1) (ret := (some .boolean)) (by decide +kernel) rfl ?_
  intro p e s m args below meth c s₁ B hml hv
  obtain ⟨rfl, hT⟩ := hv
  have hx := B.exec
  have hb := B.bytes
  have hr := B.returns
  have hts0 := atoms_spec (ws := jw_isLatin1) B.pre
  have hts : ∀ w ∈ lgd, w.before _ s = true := fun w hw => hts0 w (List.mem_cons_of_mem _ hw)
  have hown : s.vm.findClass RJ0 = some m.cls := findClass_of_methodNamed B.named
  have hlocks := B.notSynchronized
  have hS : va_S (fun _ => False) s.heap s.heap [] := va_S.rf
  have hT2 := hT
  obtain ⟨⟨adV, hK⟩, hZ, hF⟩ := hT2
  have hS5 : CallFix p m c cJ0_isLatin1_aae02 1 s _ lgd RJ0 := ⟨hx, hb, hml, hown, hts⟩
  rw [lg_entry_eq]
  have hl := lv_entry [.ref (if i = 0 then t0 else t1)] (n := 1) (Nat.le_of_ble_eq_true rfl)
  generalize (lg_sl [.ref (if i = 0 then t0 else t1)] ++ List.replicate (1 - (lg_sl [.ref (if i = 0 then t0 else t1)]).length) Slot.unset).toArray = ls at hl ⊢
  have hl : lv_has ls 1 [(0, .ref (if i = 0 then t0 else t1))] := hl
  obtain ⟨k1, k2, k3, k4⟩ := hK.1 i hi
  refine va_gets hx hb hZ hS hown (hts _ jf_cs) (fun _ h => h) (show decode cJ0_isLatin1_aae02 0 = .ok (.getstatic 38, 3) by decide +kernel) ?_
  refine lv_if_eq (tgt := 17) hx hb (show decode cJ0_isLatin1_aae02 3 = .ok (.ifCond .eq 14, 3) by decide +kernel) (by decide) (fun q => absurd q (by decide)) (fun _ => ?_)
  refine lv_aload_n hx hb (show decode cJ0_isLatin1_aae02 6 = .ok (.aload_n 0, 1) by decide +kernel) rfl (lv_at hl 0 rfl) ?_
  refine vk_getf hx hb k2 hS hown (hts _ jf_cod) (fun _ h => h) (show decode cJ0_isLatin1_aae02 7 = .ok (.getfield 15, 3) by decide +kernel) ?_
  refine lv_if_ne (tgt := 17) hx hb (show decode cJ0_isLatin1_aae02 10 = .ok (.ifCond .ne 7, 3) by decide +kernel) (by decide) (fun q => absurd rfl q) (fun _ => ?_)
  refine lv_iconst (v := 1) hx hb (show decode cJ0_isLatin1_aae02 13 = .ok (.iconst 1, 1) by decide +kernel) (by decide) ?_
  refine lv_goto (tgt := 18) hx hb (show decode cJ0_isLatin1_aae02 14 = .ok (.goto 4, 3) by decide +kernel) (by decide) ?_
  exact W.zret (ty := .boolean) hx hb hr rfl (fun t ht _ => ⟨1, rfl, rfl, ht⟩) (fun _ h => by cases h) (show decode cJ0_isLatin1_aae02 18 = .ok (.ireturn, 1) by decide +kernel)
set_option maxHeartbeats 4000000 in
set_option maxRecDepth 100000 in
theorem jm_length (l : Launch) (t0 t1 : Nat) (i : Nat) (hi : i < 2) : Met l yJ0_length_8abf5 jw_length (rmj 2) (va_Pc [.ref (if i = 0 then t0 else t1)] (TXS t0 t1)) (vp_Si (fun r => r = Int32.ofNat (txLen.getD i 0))) 0 0 (fun _ => False) := by
  refine Met.ofW (cc := cJ0_length_8abf5) (maxL := 1) (ret := (some .int)) (by decide +kernel) rfl ?_
  intro p e s m args below meth c s₁ B hml hv
  obtain ⟨rfl, hT⟩ := hv
  have hx := B.exec
  have hb := B.bytes
  have hr := B.returns
  have hts0 := atoms_spec (ws := jw_length) B.pre
  have hts : ∀ w ∈ lgd, w.before _ s = true := fun w hw => hts0 w (List.mem_cons_of_mem _ hw)
  have hown : s.vm.findClass RJ0 = some m.cls := findClass_of_methodNamed B.named
  have hlocks := B.notSynchronized
  have hS : va_S (fun _ => False) s.heap s.heap [] := va_S.rf
  have hT2 := hT
  obtain ⟨⟨adV, hK⟩, hZ, hF⟩ := hT2
  have hS5 : CallFix p m c cJ0_length_8abf5 1 s _ lgd RJ0 := ⟨hx, hb, hml, hown, hts⟩
  rw [lg_entry_eq]
  have hl := lv_entry [.ref (if i = 0 then t0 else t1)] (n := 1) (Nat.le_of_ble_eq_true rfl)
  generalize (lg_sl [.ref (if i = 0 then t0 else t1)] ++ List.replicate (1 - (lg_sl [.ref (if i = 0 then t0 else t1)]).length) Slot.unset).toArray = ls at hl ⊢
  have hl : lv_has ls 1 [(0, .ref (if i = 0 then t0 else t1))] := hl
  obtain ⟨k1, k2, k3, k4⟩ := hK.1 i hi
  have k1r : ∃ cell : Cell, s.heap[(if i = 0 then t0 else t1)]? = some cell ∧ cell.vm.isStatics = false ∧ s.vm.findClass RJ0 = some cell.cls := by obtain ⟨cell, q1, q2, q3, -⟩ := k1; exact ⟨cell, q1, q2, q3⟩
  refine lv_aload_n hx hb (show decode cJ0_length_8abf5 0 = .ok (.aload_n 0, 1) by decide +kernel) rfl (lv_at hl 0 rfl) ?_
  refine vk_getf hx hb k3 hS hown (hts _ jf_val) (fun _ h => h) (show decode cJ0_length_8abf5 1 = .ok (.getfield 9, 3) by decide +kernel) ?_
  refine va_tlen hx hb k4 hS rfl (show decode cJ0_length_8abf5 4 = .ok (.arraylength, 1) by decide +kernel) ?_
  refine lv_aload_n hx hb (show decode cJ0_length_8abf5 5 = .ok (.aload_n 0, 1) by decide +kernel) rfl (lv_at hl 0 rfl) ?_
  refine vp_callSi (W.runV (As := []) (rest := [.int (Int32.ofNat (txLen.getD i 0))]) hS5 (jm_coder l t0 t1 i hi) (cwV 0 hts (fun w hw => by
      unfold wsV at hw
      rcases List.mem_append.mp hw with hw | hw
      · rcases List.mem_cons.mp hw with rfl | hw
        · exact ⟨jl_coder, good_of_word (List.mem_filter.mp jl_coder).2⟩
        · rcases List.mem_cons.mp hw with rfl | hw
          · exact ⟨ji_coder, good_of_word (List.mem_filter.mp ji_coder).2⟩
          · rcases List.mem_cons.mp hw with rfl | hw
            · exact ⟨jse_coder, good_of_word (List.mem_filter.mp jse_coder).2⟩
            · rcases List.mem_cons.mp hw with rfl | hw
              · exact ⟨jn_RJ0, good_of_word (List.mem_filter.mp jn_RJ0).2⟩
              · cases hw
      · exact jg_coder w hw) rfl rfl rfl (by decide +kernel) ⟨Nat.le_of_ble_eq_true rfl, Nat.le_of_ble_eq_true rfl⟩) ⟨TXS.blind, k1r, fun U hU hW => ⟨rfl, hT.move hU hW⟩⟩ rfl rfl hl.1 rfl (lv_room (Nat.le_of_ble_eq_true rfl)) (show decode cJ0_length_8abf5 6 = .ok (.invokevirtual 335, 3) by decide +kernel) ⟨Nat.le_of_ble_eq_true rfl, Nat.le_of_ble_eq_true rfl⟩) (fun r hr0 => ?_)
  subst hr0
  refine lv_ishr hx hb (show decode cJ0_length_8abf5 9 = .ok (.ishr, 1) by decide +kernel) ?_
  rw [tx_sh i hi]
  exact W.iret hx hb hr (fun t ht _ => ⟨_, rfl, rfl, ht⟩) (fun _ h => by cases h) (show decode cJ0_length_8abf5 10 = .ok (.ireturn, 1) by decide +kernel)
set_option maxHeartbeats 4000000 in
set_option maxRecDepth 100000 in
theorem jm_pckn (l : Launch) (t0 t1 : Nat) (x y : Int32) (h0 : ¬ x < 0) (h1 : x < y) : Met l yJ3_checkIndex_8e157 jw_pck (rmj 1) (va_Pc [.int x, .int y, .null] (TXS t0 t1)) (vp_Si (fun r => r = x)) 0 0 (fun _ => False) := by
  refine Met.ofW (cc := cJ3_checkIndex_8e157) (maxL := 3) (ret := (some .int)) (by decide +kernel) rfl ?_
  intro p e s m args below meth c s₁ B hml hv
  obtain ⟨rfl, hT⟩ := hv
  have hx := B.exec
  have hb := B.bytes
  have hr := B.returns
  have hts0 := atoms_spec (ws := jw_pck) B.pre
  have hts : ∀ w ∈ lgd, w.before _ s = true := fun w hw => hts0 w (List.mem_cons_of_mem _ hw)
  have hown : s.vm.findClass RJ3 = some m.cls := findClass_of_methodNamed B.named
  have hlocks := B.notSynchronized
  have hS : va_S (fun _ => False) s.heap s.heap [] := va_S.rf
  have hT2 := hT
  obtain ⟨⟨adV, hK⟩, hZ, hF⟩ := hT2
  have hS5 : CallFix p m c cJ3_checkIndex_8e157 3 s _ lgd RJ3 := ⟨hx, hb, hml, hown, hts⟩
  rw [lg_entry_eq]
  have hl := lv_entry [.int x, .int y, .null] (n := 3) (Nat.le_of_ble_eq_true rfl)
  generalize (lg_sl [.int x, .int y, .null] ++ List.replicate (3 - (lg_sl [.int x, .int y, .null]).length) Slot.unset).toArray = ls at hl ⊢
  have hl : lv_has ls 3 [(0, .int x), (1, .int y), (2, .null)] := hl
  refine lv_iload_n hx hb (show decode cJ3_checkIndex_8e157 0 = .ok (.iload_n 0, 1) by decide +kernel) rfl (lv_at hl 0 rfl) ?_
  refine lv_if_lt (tgt := 9) hx hb (show decode cJ3_checkIndex_8e157 1 = .ok (.ifCond .lt 8, 3) by decide +kernel) (by decide) (fun q => absurd q h0) (fun _ => ?_)
  refine lv_iload_n hx hb (show decode cJ3_checkIndex_8e157 4 = .ok (.iload_n 0, 1) by decide +kernel) rfl (lv_at hl 0 rfl) ?_
  refine lv_iload_n hx hb (show decode cJ3_checkIndex_8e157 5 = .ok (.iload_n 1, 1) by decide +kernel) rfl (lv_at hl 1 rfl) ?_
  refine lv_icmp_lt (tgt := 16) hx hb (show decode cJ3_checkIndex_8e157 6 = .ok (.if_icmp .lt 10, 3) by decide +kernel) (by decide) (fun _ => ?_) (fun q => absurd h1 q)
  refine lv_iload_n hx hb (show decode cJ3_checkIndex_8e157 16 = .ok (.iload_n 0, 1) by decide +kernel) rfl (lv_at hl 0 rfl) ?_
  exact W.iret hx hb hr (fun t ht _ => ⟨_, rfl, rfl, ht⟩) (fun _ h => by cases h) (show decode cJ3_checkIndex_8e157 17 = .ok (.ireturn, 1) by decide +kernel)
set_option maxHeartbeats 4000000 in
set_option maxRecDepth 100000 in
theorem jm_pckr (l : Launch) (t0 t1 : Nat) (x y : Int32) (q : Nat) (h0 : ¬ x < 0) (h1 : x < y) : Met l yJ3_checkIndex_8e157 jw_pck (rmj 1) (va_Pc [.int x, .int y, (.ref q)] (TXS t0 t1)) (vp_Si (fun r => r = x)) 0 0 (fun _ => False) := by
  refine Met.ofW (cc := cJ3_checkIndex_8e157) (maxL := 3) (ret := (some .int)) (by decide +kernel) rfl ?_
  intro p e s m args below meth c s₁ B hml hv
  obtain ⟨rfl, hT⟩ := hv
  have hx := B.exec
  have hb := B.bytes
  have hr := B.returns
  have hts0 := atoms_spec (ws := jw_pck) B.pre
  have hts : ∀ w ∈ lgd, w.before _ s = true := fun w hw => hts0 w (List.mem_cons_of_mem _ hw)
  have hown : s.vm.findClass RJ3 = some m.cls := findClass_of_methodNamed B.named
  have hlocks := B.notSynchronized
  have hS : va_S (fun _ => False) s.heap s.heap [] := va_S.rf
  have hT2 := hT
  obtain ⟨⟨adV, hK⟩, hZ, hF⟩ := hT2
  have hS5 : CallFix p m c cJ3_checkIndex_8e157 3 s _ lgd RJ3 := ⟨hx, hb, hml, hown, hts⟩
  rw [lg_entry_eq]
  have hl := lv_entry [.int x, .int y, (.ref q)] (n := 3) (Nat.le_of_ble_eq_true rfl)
  generalize (lg_sl [.int x, .int y, (.ref q)] ++ List.replicate (3 - (lg_sl [.int x, .int y, (.ref q)]).length) Slot.unset).toArray = ls at hl ⊢
  have hl : lv_has ls 3 [(0, .int x), (1, .int y), (2, (.ref q))] := hl
  refine lv_iload_n hx hb (show decode cJ3_checkIndex_8e157 0 = .ok (.iload_n 0, 1) by decide +kernel) rfl (lv_at hl 0 rfl) ?_
  refine lv_if_lt (tgt := 9) hx hb (show decode cJ3_checkIndex_8e157 1 = .ok (.ifCond .lt 8, 3) by decide +kernel) (by decide) (fun q => absurd q h0) (fun _ => ?_)
  refine lv_iload_n hx hb (show decode cJ3_checkIndex_8e157 4 = .ok (.iload_n 0, 1) by decide +kernel) rfl (lv_at hl 0 rfl) ?_
  refine lv_iload_n hx hb (show decode cJ3_checkIndex_8e157 5 = .ok (.iload_n 1, 1) by decide +kernel) rfl (lv_at hl 1 rfl) ?_
  refine lv_icmp_lt (tgt := 16) hx hb (show decode cJ3_checkIndex_8e157 6 = .ok (.if_icmp .lt 10, 3) by decide +kernel) (by decide) (fun _ => ?_) (fun q => absurd h1 q)
  refine lv_iload_n hx hb (show decode cJ3_checkIndex_8e157 16 = .ok (.iload_n 0, 1) by decide +kernel) rfl (lv_at hl 0 rfl) ?_
  exact W.iret hx hb hr (fun t ht _ => ⟨_, rfl, rfl, ht⟩) (fun _ h => by cases h) (show decode cJ3_checkIndex_8e157 17 = .ok (.ireturn, 1) by decide +kernel)
set_option maxHeartbeats 4000000 in
set_option maxRecDepth 100000 in
theorem jm_ck (l : Launch) (t0 t1 : Nat) (x y : Int32) (h0 : ¬ x < 0) (h1 : x < y) : Met l yJ0_checkIndex_df160 jw_ck (rmj 2) (va_Pc [.int x, .int y] (TXS t0 t1)) (va_Sv (fun _ => True)) 0 0 (fun _ => False) := by
  refine Met.ofW (cc := cJ0_checkIndex_df160) (maxL := 2) (ret := none) (by decide +kernel) rfl ?_
  intro p e s m args below meth c s₁ B hml hv
  obtain ⟨rfl, hT⟩ := hv
  have hx := B.exec
  have hb := B.bytes
  have hr := B.returns
  have hts0 := atoms_spec (ws := jw_ck) B.pre
  have hts : ∀ w ∈ lgd, w.before _ s = true := fun w hw => hts0 w (List.mem_cons_of_mem _ hw)
  have hown : s.vm.findClass RJ0 = some m.cls := findClass_of_methodNamed B.named
  have hlocks := B.notSynchronized
  have hS : va_S (fun _ => False) s.heap s.heap [] := va_S.rf
  have hT2 := hT
  obtain ⟨⟨adV, hK⟩, hZ, hF⟩ := hT2
  have hS5 : CallFix p m c cJ0_checkIndex_df160 2 s _ lgd RJ0 := ⟨hx, hb, hml, hown, hts⟩
  rw [lg_entry_eq]
  have hl := lv_entry [.int x, .int y] (n := 2) (Nat.le_of_ble_eq_true rfl)
  generalize (lg_sl [.int x, .int y] ++ List.replicate (2 - (lg_sl [.int x, .int y]).length) Slot.unset).toArray = ls at hl ⊢
  have hl : lv_has ls 2 [(0, .int x), (1, .int y)] := hl
  refine lv_iload_n hx hb (show decode cJ0_checkIndex_df160 0 = .ok (.iload_n 0, 1) by decide +kernel) rfl (lv_at hl 0 rfl) ?_
  refine lv_iload_n hx hb (show decode cJ0_checkIndex_df160 1 = .ok (.iload_n 1, 1) by decide +kernel) rfl (lv_at hl 1 rfl) ?_
  rcases hF with hF | ⟨tq, hF⟩
  · refine va_gets hx hb hF hS hown (hts _ jf_fmt) (fun _ h => h) (show decode cJ0_checkIndex_df160 2 = .ok (.getstatic 1053, 3) by decide +kernel) ?_
    refine vp_callSi (W.runS (As := [.int x, .int y, .null]) (rest := []) hS5 (jm_pckn l t0 t1 x y h0 h1) (va_cwS 3 hts (fun w hw => by
      unfold va_wsS at hw
      rcases List.mem_append.mp hw with hw | hw
      · rcases List.mem_cons.mp hw with rfl | hw
        · exact ⟨jl_pck, good_of_word (List.mem_filter.mp jl_pck).2⟩
        · rcases List.mem_cons.mp hw with rfl | hw
          · exact ⟨ji_pck, good_of_word (List.mem_filter.mp ji_pck).2⟩
          · rcases List.mem_cons.mp hw with rfl | hw
            · exact ⟨jn_RJ3, good_of_word (List.mem_filter.mp jn_RJ3).2⟩
            · cases hw
      · exact jg_pck w hw) rfl rfl rfl (by decide +kernel) ⟨Nat.le_of_ble_eq_true rfl, Nat.le_of_ble_eq_true rfl⟩) ⟨TXS.blind, fun U hU hW => ⟨rfl, hT.move hU hW⟩⟩ rfl rfl hl.1 rfl (lv_room (Nat.le_of_ble_eq_true rfl)) (show decode cJ0_checkIndex_df160 5 = .ok (.invokestatic 1059, 3) by decide +kernel) ⟨Nat.le_of_ble_eq_true rfl, Nat.le_of_ble_eq_true rfl⟩) (fun r _ => ?_)
    refine lv_pop hx hb (show decode cJ0_checkIndex_df160 8 = .ok (.pop, 1) by decide +kernel) rfl ?_
    exact W.vret hx hb hr (fun t ht _ => ⟨rfl, trivial, ht⟩) (fun _ h => by cases h) (show decode cJ0_checkIndex_df160 9 = .ok (.return_, 1) by decide +kernel)
  · refine va_gets hx hb hF hS hown (hts _ jf_fmt) (fun _ h => h) (show decode cJ0_checkIndex_df160 2 = .ok (.getstatic 1053, 3) by decide +kernel) ?_
    refine vp_callSi (W.runS (As := [.int x, .int y, (.ref tq)]) (rest := []) hS5 (jm_pckr l t0 t1 x y tq h0 h1) (va_cwS 3 hts (fun w hw => by
      unfold va_wsS at hw
      rcases List.mem_append.mp hw with hw | hw
      · rcases List.mem_cons.mp hw with rfl | hw
        · exact ⟨jl_pck, good_of_word (List.mem_filter.mp jl_pck).2⟩
        · rcases List.mem_cons.mp hw with rfl | hw
          · exact ⟨ji_pck, good_of_word (List.mem_filter.mp ji_pck).2⟩
          · rcases List.mem_cons.mp hw with rfl | hw
            · exact ⟨jn_RJ3, good_of_word (List.mem_filter.mp jn_RJ3).2⟩
            · cases hw
      · exact jg_pck w hw) rfl rfl rfl (by decide +kernel) ⟨Nat.le_of_ble_eq_true rfl, Nat.le_of_ble_eq_true rfl⟩) ⟨TXS.blind, fun U hU hW => ⟨rfl, hT.move hU hW⟩⟩ rfl rfl hl.1 rfl (lv_room (Nat.le_of_ble_eq_true rfl)) (show decode cJ0_checkIndex_df160 5 = .ok (.invokestatic 1059, 3) by decide +kernel) ⟨Nat.le_of_ble_eq_true rfl, Nat.le_of_ble_eq_true rfl⟩) (fun r _ => ?_)
    refine lv_pop hx hb (show decode cJ0_checkIndex_df160 8 = .ok (.pop, 1) by decide +kernel) rfl ?_
    exact W.vret hx hb hr (fun t ht _ => ⟨rfl, trivial, ht⟩) (fun _ h => by cases h) (show decode cJ0_checkIndex_df160 9 = .ok (.return_, 1) by decide +kernel)
theorem tx_at {i j : Nat} (hi : i < 2) (hj : j < txLen.getD i 0) : ((((txByt.getD i []).getD j 0) &&& 255).toUInt32 % 65536).toInt32 = (txByt.getD i []).getD j 0 ∧ narrow .char (.int ((txByt.getD i []).getD j 0)) = .int ((txByt.getD i []).getD j 0) := by
  obtain ⟨h1, h2⟩ := tx_ok i hi
  refine h2 _ ?_
  clear h2
  rw [h1] at hj
  clear h1
  generalize txByt.getD i [] = bs at *
  rw [List.getD_eq_getElem?_getD, List.getElem?_eq_getElem hj]
  exact List.getElem_mem _
set_option maxHeartbeats 4000000 in
set_option maxRecDepth 100000 in
theorem jm_lch (l : Launch) (t0 t1 : Nat) (i j : Nat) (hi : i < 2) (hj : j < txLen.getD i 0) (tv : Nat) : Met l yJ1_charAt_3b067 jw_lch (rmj 3) (va_Pc [.ref tv, .int (nI j)] (fun U => TXS t0 t1 U ∧ va_T .byte tv (txLen.getD i 0) (fun k => .int ((txByt.getD i []).getD k 0)) (fun _ => False) U U.heap)) (vp_Si (fun r => r = (txByt.getD i []).getD j 0)) 0 0 (fun _ => False) := by
  refine Met.ofW (cc := cJ1_charAt_3b067) (maxL := 2) (ret := (some .char)) (by decide +kernel) rfl ?_
  intro p e s m args below meth c s₁ B hml hv
  obtain ⟨rfl, hT, hTV⟩ := hv
  have hx := B.exec
  have hb := B.bytes
  have hr := B.returns
  have hts0 := atoms_spec (ws := jw_lch) B.pre
  have hts : ∀ w ∈ lgd, w.before _ s = true := fun w hw => hts0 w (List.mem_cons_of_mem _ hw)
  have hown : s.vm.findClass RJ1 = some m.cls := findClass_of_methodNamed B.named
  have hlocks := B.notSynchronized
  have hS : va_S (fun _ => False) s.heap s.heap [] := va_S.rf
  have hS5 : CallFix p m c cJ1_charAt_3b067 2 s _ lgd RJ1 := ⟨hx, hb, hml, hown, hts⟩
  have hlt := tx_len i hi
  rw [lg_entry_eq]
  have hl := lv_entry [.ref tv, .int (nI j)] (n := 2) (Nat.le_of_ble_eq_true rfl)
  generalize (lg_sl [.ref tv, .int (nI j)] ++ List.replicate (2 - (lg_sl [.ref tv, .int (nI j)]).length) Slot.unset).toArray = ls at hl ⊢
  have hl : lv_has ls 2 [(0, .ref tv), (1, .int (nI j))] := hl
  refine lv_iload_n hx hb (show decode cJ1_charAt_3b067 0 = .ok (.iload_n 1, 1) by decide +kernel) rfl (lv_at hl 1 rfl) ?_
  refine lv_aload_n hx hb (show decode cJ1_charAt_3b067 1 = .ok (.aload_n 0, 1) by decide +kernel) rfl (lv_at hl 0 rfl) ?_
  refine va_tlen (v := nI (txLen.getD i 0)) hx hb hTV hS rfl (show decode cJ1_charAt_3b067 2 = .ok (.arraylength, 1) by decide +kernel) ?_
  refine va_csv (W.runS (As := [.int (nI j), .int (nI (txLen.getD i 0))]) (rest := []) hS5 (jm_ck l t0 t1 (nI j) (nI (txLen.getD i 0)) (nI_pos (by omega)) (nI_lt hj (by omega))) (va_cwS 2 hts (fun w hw => by
      unfold va_wsS at hw
      rcases List.mem_append.mp hw with hw | hw
      · rcases List.mem_cons.mp hw with rfl | hw
        · exact ⟨jl_ck, good_of_word (List.mem_filter.mp jl_ck).2⟩
        · rcases List.mem_cons.mp hw with rfl | hw
          · exact ⟨ji_ck, good_of_word (List.mem_filter.mp ji_ck).2⟩
          · rcases List.mem_cons.mp hw with rfl | hw
            · exact ⟨jn_RJ0, good_of_word (List.mem_filter.mp jn_RJ0).2⟩
            · cases hw
      · exact jg_ck w hw) rfl rfl rfl (by decide +kernel) ⟨Nat.le_of_ble_eq_true rfl, Nat.le_of_ble_eq_true rfl⟩) ⟨TXS.blind, fun U hU hW => ⟨rfl, hT.move hU hW⟩⟩ rfl rfl hl.1 rfl (lv_room (Nat.le_of_ble_eq_true rfl)) (show decode cJ1_charAt_3b067 3 = .ok (.invokestatic 9, 3) by decide +kernel) ⟨Nat.le_of_ble_eq_true rfl, Nat.le_of_ble_eq_true rfl⟩) (fun _ => ?_)
  refine lv_aload_n hx hb (show decode cJ1_charAt_3b067 6 = .ok (.aload_n 0, 1) by decide +kernel) rfl (lv_at hl 0 rfl) ?_
  refine lv_iload_n hx hb (show decode cJ1_charAt_3b067 7 = .ok (.iload_n 1, 1) by decide +kernel) rfl (lv_at hl 1 rfl) ?_
  refine va_tb hx hb hTV hS (vp_in_nI hj (by omega)) rfl (show decode cJ1_charAt_3b067 8 = .ok (.baload, 1) by decide +kernel) ?_
  rw [nI_clamp (by omega)]
  refine lv_sipush (v := 255) hx hb (show decode cJ1_charAt_3b067 9 = .ok (.sipush 255, 3) by decide +kernel) (by decide) ?_
  refine lv_iand hx hb (show decode cJ1_charAt_3b067 12 = .ok (.iand, 1) by decide +kernel) ?_
  refine lv_i2c hx hb (show decode cJ1_charAt_3b067 13 = .ok (.i2c, 1) by decide +kernel) (tx_at hi hj).1 ?_
  exact W.zret (ty := .char) hx hb hr (tx_at hi hj).2 (fun t ht _ => ⟨_, rfl, rfl, ht⟩) (fun _ h => by cases h) (show decode cJ1_charAt_3b067 14 = .ok (.ireturn, 1) by decide +kernel)
theorem lch_blind {t0 t1 i j tv : Nat} : FrameBlind (va_Pc [.ref tv, .int (nI j)] (fun U => TXS t0 t1 U ∧ va_T .byte tv (txLen.getD i 0) (fun k => .int ((txByt.getD i []).getD k 0)) (fun _ => False) U U.heap)) := by
  intro a U fr mk ⟨h1, h2, h3⟩
  exact ⟨h1, ((TXS.blind (av := [.ref tv, .int (nI j)]) a U fr mk ⟨h1, h2⟩)).2, h3.moved (u := U) (U := U.calling fr mk a) (Vm.Alike.refl U.vm)⟩
set_option maxHeartbeats 4000000 in
set_option maxRecDepth 100000 in
theorem jm_charAt (l : Launch) (t0 t1 : Nat) (i j : Nat) (hi : i < 2) (hj : j < txLen.getD i 0) : Met l yJ0_charAt_5068e jw_charAt (rmj 4) (va_Pc [.ref (if i = 0 then t0 else t1), .int (nI j)] (TXS t0 t1)) (vp_Si (fun r => r = (txByt.getD i []).getD j 0)) 0 0 (fun _ => False) := by
  refine Met.ofW (cc := cJ0_charAt_5068e) (maxL := 2) (ret := (some .char)) (by decide +kernel) rfl ?_
  intro p e s m args below meth c s₁ B hml hv
  obtain ⟨rfl, hT⟩ := hv
  have hx := B.exec
  have hb := B.bytes
  have hr := B.returns
  have hts0 := atoms_spec (ws := jw_charAt) B.pre
  have hts : ∀ w ∈ lgd, w.before _ s = true := fun w hw => hts0 w (List.mem_cons_of_mem _ hw)
  have hown : s.vm.findClass RJ0 = some m.cls := findClass_of_methodNamed B.named
  have hlocks := B.notSynchronized
  have hS : va_S (fun _ => False) s.heap s.heap [] := va_S.rf
  have hT2 := hT
  obtain ⟨⟨adV, hK⟩, hZ, hF⟩ := hT2
  have hS5 : CallFix p m c cJ0_charAt_5068e 2 s _ lgd RJ0 := ⟨hx, hb, hml, hown, hts⟩
  rw [lg_entry_eq]
  have hl := lv_entry [.ref (if i = 0 then t0 else t1), .int (nI j)] (n := 2) (Nat.le_of_ble_eq_true rfl)
  generalize (lg_sl [.ref (if i = 0 then t0 else t1), .int (nI j)] ++ List.replicate (2 - (lg_sl [.ref (if i = 0 then t0 else t1), .int (nI j)]).length) Slot.unset).toArray = ls at hl ⊢
  have hl : lv_has ls 2 [(0, .ref (if i = 0 then t0 else t1)), (1, .int (nI j))] := hl
  obtain ⟨k1, k2, k3, k4⟩ := hK.1 i hi
  have k1r : ∃ cell : Cell, s.heap[(if i = 0 then t0 else t1)]? = some cell ∧ cell.vm.isStatics = false ∧ s.vm.findClass RJ0 = some cell.cls := by obtain ⟨cell, q1, q2, q3, -⟩ := k1; exact ⟨cell, q1, q2, q3⟩
  refine lv_aload_n hx hb (show decode cJ0_charAt_5068e 0 = .ok (.aload_n 0, 1) by decide +kernel) rfl (lv_at hl 0 rfl) ?_
  refine vp_callSi (W.runV (As := []) (rest := []) hS5 (jm_isLatin1 l t0 t1 i hi) (cwV 0 hts (fun w hw => by
      unfold wsV at hw
      rcases List.mem_append.mp hw with hw | hw
      · rcases List.mem_cons.mp hw with rfl | hw
        · exact ⟨jl_lat, good_of_word (List.mem_filter.mp jl_lat).2⟩
        · rcases List.mem_cons.mp hw with rfl | hw
          · exact ⟨ji_isLatin1, good_of_word (List.mem_filter.mp ji_isLatin1).2⟩
          · rcases List.mem_cons.mp hw with rfl | hw
            · exact ⟨jse_isLatin1, good_of_word (List.mem_filter.mp jse_isLatin1).2⟩
            · rcases List.mem_cons.mp hw with rfl | hw
              · exact ⟨jn_RJ0, good_of_word (List.mem_filter.mp jn_RJ0).2⟩
              · cases hw
      · exact jg_isLatin1 w hw) rfl rfl rfl (by decide +kernel) ⟨Nat.le_of_ble_eq_true rfl, Nat.le_of_ble_eq_true rfl⟩) ⟨TXS.blind, k1r, fun U hU hW => ⟨rfl, hT.move hU hW⟩⟩ rfl rfl hl.1 rfl (lv_room (Nat.le_of_ble_eq_true rfl)) (show decode cJ0_charAt_5068e 1 = .ok (.invokevirtual 492, 3) by decide +kernel) ⟨Nat.le_of_ble_eq_true rfl, Nat.le_of_ble_eq_true rfl⟩) (fun r hr0 => ?_)
  subst hr0
  refine lv_if_eq (tgt := 16) hx hb (show decode cJ0_charAt_5068e 4 = .ok (.ifCond .eq 12, 3) by decide +kernel) (by decide) (fun q => absurd q (by decide)) (fun _ => ?_)
  refine lv_aload_n hx hb (show decode cJ0_charAt_5068e 7 = .ok (.aload_n 0, 1) by decide +kernel) rfl (lv_at hl 0 rfl) ?_
  refine vk_getf hx hb k3 hS hown (hts _ jf_val) (fun _ h => h) (show decode cJ0_charAt_5068e 8 = .ok (.getfield 9, 3) by decide +kernel) ?_
  refine lv_iload_n hx hb (show decode cJ0_charAt_5068e 11 = .ok (.iload_n 1, 1) by decide +kernel) rfl (lv_at hl 1 rfl) ?_
  refine vp_callSi (W.runS (As := [.ref (adV i), .int (nI j)]) (rest := []) hS5 (jm_lch l t0 t1 i j hi hj (adV i)) (va_cwS 2 hts (fun w hw => by
      unfold va_wsS at hw
      rcases List.mem_append.mp hw with hw | hw
      · rcases List.mem_cons.mp hw with rfl | hw
        · exact ⟨jl_lch, good_of_word (List.mem_filter.mp jl_lch).2⟩
        · rcases List.mem_cons.mp hw with rfl | hw
          · exact ⟨ji_lch, good_of_word (List.mem_filter.mp ji_lch).2⟩
          · rcases List.mem_cons.mp hw with rfl | hw
            · exact ⟨jn_RJ1, good_of_word (List.mem_filter.mp jn_RJ1).2⟩
            · cases hw
      · exact jg_lch w hw) rfl rfl rfl (by decide +kernel) ⟨Nat.le_of_ble_eq_true rfl, Nat.le_of_ble_eq_true rfl⟩) ⟨lch_blind, fun U hU hW => ⟨rfl, hT.move hU hW, (k4.kept (fun a _ _ => by rw [hU])).moved hW.alike⟩⟩ rfl rfl hl.1 rfl (lv_room (Nat.le_of_ble_eq_true rfl)) (show decode cJ0_charAt_5068e 12 = .ok (.invokestatic 495, 3) by decide +kernel) ⟨Nat.le_of_ble_eq_true rfl, Nat.le_of_ble_eq_true rfl⟩) (fun r hr0 => ?_)
  subst hr0
  exact W.zret (ty := .char) hx hb hr (tx_at hi hj).2 (fun t ht _ => ⟨_, rfl, rfl, ht⟩) (fun _ h => by cases h) (show decode cJ0_charAt_5068e 15 = .ok (.ireturn, 1) by decide +kernel)
