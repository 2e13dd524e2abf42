/-! THE WHOLE: a run of the abstract machine is a run of the real one. -/
theorem itr_le {c i x : Nat} (h : itr c i = some x) : x ≤ 6 := by
  unfold itr at h
  rw [Option.map_eq_some_iff] at h
  obtain ⟨e, he, h2⟩ := h
  obtain ⟨h1, rfl, rfl⟩ := find_in he
  have h3 : ∀ e ∈ itab, e.2.2 ≤ 6 := by decide +kernel
  subst h2
  exact h3 _ h1
section WH
variable {p : Program} {l : Launch} {e : Env} {R : Room} {s : State} {m : MethodId} {args : Array Value} {below : List Frame} {meth : Method} {c : Code} {Q : State → Prop} {D : va_G} {dA : Nat → ClassId} {A : Nat → Prop} {b t0 t1 : Nat} {ad0 : Int → Nat} {n0 cb sb : Int} {xs : Nat → Int32} {Ln : Nat} {k d pc nx : Nat} {ls st : List KV} {g : KG} {h : KH}
theorem stp_ok (F : Fr p R s m args meth c D dA A b t0 t1 xs Ln k d) {ins : Instr} {pc1 : Nat} {ls1 st1 : List KV} {g1 : KG} {h1 : KH} (hi : At_ k pc ins nx) (hs : stp k pc ins nx ls st g h = some (pc1, ls1, st1, g1, h1)) (hcb : gC g1 - cb ≤ R.cells) (hsb : gS g1 - sb ≤ R.slots) (hN : SW p l e R s m args below meth c Q D dA A b t0 t1 ad0 n0 cb sb xs Ln k pc1 ls1 st1 g1 h1) : SW p l e R s m args below meth c Q D dA A b t0 t1 ad0 n0 cb sb xs Ln k pc ls st g h := by
  cases ins with
  | iadd =>
    obtain ⟨st2, hb, hz⟩ := nxs_inv hs
    cases hz
    exact sw_iadd F hi hb hN
  | isub =>
    obtain ⟨st2, hb, hz⟩ := nxs_inv hs
    cases hz
    exact sw_isub F hi hb hN
  | imul =>
    obtain ⟨st2, hb, hz⟩ := nxs_inv hs
    cases hz
    exact sw_imul F hi hb hN
  | iand =>
    obtain ⟨st2, hb, hz⟩ := nxs_inv hs
    cases hz
    exact sw_iand F hi hb hN
  | ior =>
    obtain ⟨st2, hb, hz⟩ := nxs_inv hs
    cases hz
    exact sw_ior F hi hb hN
  | ixor =>
    obtain ⟨st2, hb, hz⟩ := nxs_inv hs
    cases hz
    exact sw_ixor F hi hb hN
  | ladd =>
    obtain ⟨st2, hb, hz⟩ := nxs_inv hs
    cases hz
    exact sw_ladd F hi hb hN
  | lsub =>
    obtain ⟨st2, hb, hz⟩ := nxs_inv hs
    cases hz
    exact sw_lsub F hi hb hN
  | lmul =>
    obtain ⟨st2, hb, hz⟩ := nxs_inv hs
    cases hz
    exact sw_lmul F hi hb hN
  | land =>
    obtain ⟨st2, hb, hz⟩ := nxs_inv hs
    cases hz
    exact sw_land F hi hb hN
  | lor =>
    obtain ⟨st2, hb, hz⟩ := nxs_inv hs
    cases hz
    exact sw_lor F hi hb hN
  | lxor =>
    obtain ⟨st2, hb, hz⟩ := nxs_inv hs
    cases hz
    exact sw_lxor F hi hb hN
  | idiv =>
    obtain ⟨st2, hb, hz⟩ := nxs_inv hs
    cases hz
    exact sw_idiv F hi hb hN
  | irem =>
    obtain ⟨st2, hb, hz⟩ := nxs_inv hs
    cases hz
    exact sw_irem F hi hb hN
  | ldiv =>
    obtain ⟨st2, hb, hz⟩ := nxs_inv hs
    cases hz
    exact sw_ldiv F hi hb hN
  | lrem =>
    obtain ⟨st2, hb, hz⟩ := nxs_inv hs
    cases hz
    exact sw_lrem F hi hb hN
  | ishl =>
    obtain ⟨st2, hb, hz⟩ := nxs_inv hs
    cases hz
    exact sw_ishl F hi hb hN
  | ishr =>
    obtain ⟨st2, hb, hz⟩ := nxs_inv hs
    cases hz
    exact sw_ishr F hi hb hN
  | iushr =>
    obtain ⟨st2, hb, hz⟩ := nxs_inv hs
    cases hz
    exact sw_iushr F hi hb hN
  | lshl =>
    obtain ⟨st2, hb, hz⟩ := nxs_inv hs
    cases hz
    exact sw_lshl F hi hb hN
  | lshr =>
    obtain ⟨st2, hb, hz⟩ := nxs_inv hs
    cases hz
    exact sw_lshr F hi hb hN
  | i2b =>
    obtain ⟨st2, hb, hz⟩ := nxs_inv hs
    cases hz
    exact sw_i2b F hi hb hN
  | i2s =>
    obtain ⟨st2, hb, hz⟩ := nxs_inv hs
    cases hz
    exact sw_i2s F hi hb hN
  | iload_n j =>
    obtain ⟨st2, hb, hz⟩ := nxs_inv hs
    cases hz
    exact sw_iload_n F hi hb hN
  | iload j =>
    obtain ⟨st2, hb, hz⟩ := nxs_inv hs
    cases hz
    exact sw_iload F hi hb hN
  | lload_n j =>
    obtain ⟨st2, hb, hz⟩ := nxs_inv hs
    cases hz
    exact sw_lload_n F hi hb hN
  | lload j =>
    obtain ⟨st2, hb, hz⟩ := nxs_inv hs
    cases hz
    exact sw_lload F hi hb hN
  | aload_n j =>
    obtain ⟨st2, hb, hz⟩ := nxs_inv hs
    cases hz
    exact sw_aload_n F hi hb hN
  | aload j =>
    obtain ⟨st2, hb, hz⟩ := nxs_inv hs
    cases hz
    exact sw_aload F hi hb hN
  | istore_n j =>
    obtain ⟨ls2, st2, hb, hz⟩ := nxl_inv hs
    cases hz
    exact sw_istore_n F hi hb hN
  | istore j =>
    obtain ⟨ls2, st2, hb, hz⟩ := nxl_inv hs
    cases hz
    exact sw_istore F hi hb hN
  | lstore_n j =>
    obtain ⟨ls2, st2, hb, hz⟩ := nxl_inv hs
    cases hz
    exact sw_lstore_n F hi hb hN
  | lstore j =>
    obtain ⟨ls2, st2, hb, hz⟩ := nxl_inv hs
    cases hz
    exact sw_lstore F hi hb hN
  | astore_n j =>
    obtain ⟨ls2, st2, hb, hz⟩ := nxl_inv hs
    cases hz
    exact sw_astore_n F hi hb hN
  | astore j =>
    obtain ⟨ls2, st2, hb, hz⟩ := nxl_inv hs
    cases hz
    exact sw_astore F hi hb hN
  | iconst v =>
    cases hs
    exact sw_iconst F hi rfl hN
  | bipush v =>
    cases hs
    exact sw_bipush F hi rfl hN
  | sipush v =>
    cases hs
    exact sw_sipush F hi rfl hN
  | lconst v =>
    cases hs
    exact sw_lconst F hi rfl hN
  | i2l =>
    simp only [stp] at hs
    split at hs
    · cases hs
      exact sw_i2l F hi rfl rfl hN
    · cases hs
  | l2i =>
    simp only [stp] at hs
    split at hs
    · cases hs
      exact sw_l2i F hi rfl rfl hN
    · cases hs
  | lcmp =>
    simp only [stp] at hs
    split at hs
    · cases hs
      exact sw_lcmp F hi rfl rfl hN
    · cases hs
  | dup =>
    simp only [stp] at hs
    split at hs
    · cases hs
      exact sw_dup F hi rfl rfl rfl hN
    · cases hs
      exact sw_dup F hi rfl rfl rfl hN
    · cases hs
  | dup2 =>
    simp only [stp] at hs
    split at hs
    · cases hs
      exact sw_dup2 F hi rfl rfl hN
    · cases hs
  | pop =>
    simp only [stp] at hs
    split at hs
    · cases hs
      exact sw_pop F hi rfl hN
    · cases hs
  | iinc j v =>
    simp only [stp] at hs
    split at hs
    · rename_i a hl
      cases hs
      exact sw_iinc F hi hl hN
    · cases hs
  | ldc i =>
    simp only [stp] at hs
    split at hs
    · rename_i v hk
      cases hs
      exact sw_ldc F hi hk hN
    · rename_i v hk
      cases hs
      exact sw_ldcS F hi hk hN
    · cases hs
  | ldc_w i =>
    simp only [stp] at hs
    split at hs
    · rename_i v hk
      cases hs
      exact sw_ldc_w F hi hk hN
    · cases hs
  | ldc2_w i =>
    simp only [stp] at hs
    split at hs
    · rename_i v hk
      cases hs
      exact sw_ldc2_w F hi hk hN
    · cases hs
  | goto off => exact sw_goto F hi hs hN
  | ifCond cn off =>
    simp only [stp] at hs
    split at hs
    · rename_i a s2
      cases hj : jmp pc off ls s2 g h with
      | none => rw [hj] at hs; cases hs
      | some z =>
        obtain ⟨t, ht, rfl⟩ := jmp_inv hj
        rw [hj] at hs
        simp only at hs
        by_cases q : cnd cn a 0 = true
        · rw [if_pos q] at hs
          cases hs
          exact sw_if F hi ht (by rw [if_pos q]) hN
        · rw [if_neg q] at hs
          cases hs
          exact sw_if F hi ht (by rw [if_neg q]) hN
    · cases hs
  | if_icmp cn off =>
    simp only [stp] at hs
    split at hs
    · rename_i a2 a s2
      cases hj : jmp pc off ls s2 g h with
      | none => rw [hj] at hs; cases hs
      | some z =>
        obtain ⟨t, ht, rfl⟩ := jmp_inv hj
        rw [hj] at hs
        simp only at hs
        by_cases q : cnd cn a a2 = true
        · rw [if_pos q] at hs
          cases hs
          exact sw_icmp F hi ht (by rw [if_pos q]) hN
        · rw [if_neg q] at hs
          cases hs
          exact sw_icmp F hi ht (by rw [if_neg q]) hN
    · cases hs
  | tableswitch df lo hi2 offs =>
    simp only [stp] at hs
    split at hs
    · rename_i a s2
      by_cases q : a < lo ∨ hi2 < a
      · rw [if_pos q] at hs
        obtain ⟨t, ht, hz⟩ := jmp_inv hs
        cases hz
        exact sw_tsw F hi (Or.inl ⟨q, rfl⟩) ht hN
      · rw [if_neg q] at hs
        cases ho : offs[(a - lo).toNat]? with
        | none => rw [ho] at hs; cases hs
        | some off =>
          rw [ho] at hs
          obtain ⟨t, ht, hz⟩ := jmp_inv hs
          cases hz
          exact sw_tsw F hi (Or.inr ⟨q, ho⟩) ht hN
    · cases hs
  | lookupswitch df ps =>
    simp only [stp] at hs
    split at hs
    · rename_i a s2
      split at hs
      · rename_i hz
        obtain ⟨t, ht, hz2⟩ := jmp_inv hs
        cases hz2
        exact sw_lsw F hi hz ht hN
      · cases hs
    · cases hs
  | getfield i =>
    simp only [stp] at hs
    split at hs
    · rename_i ci j t a s2 hf
      split at hs
      · rename_i hk
        cases hs
        exact sw_getfield F hi hf hk hN
      · cases hs
    · cases hs
  | putfield i =>
    simp only [stp] at hs
    obtain ⟨n1, hd, hnx, hln⟩ := hi
    have hln : n1 = 3 := by simpa [fln] using hln
    subst hln
    subst hnx
    cases hf : fld (mcls k) i with
    | none => rw [hf] at hs; cases hs
    | some q =>
    obtain ⟨ci, j, t⟩ := q
    rw [hf] at hs
    simp only at hs
    split at hs
    · rename_i v a s2
      split at hs
      · rename_i hk
        cases hs
        obtain ⟨k1, k2, k3⟩ := hk
        rcases k2 with rfl | ⟨rfl, k4, k5⟩
        · intro ad H locs cells slots L hW hst
          exact put_go (t := 0) (x := v) F hd hf k1 rfl (okV_hd hst) (Or.inl k3) hN ad H locs cells slots L hW hst
        · exact put_go (t := 3) (x := v) F hd hf k1 rfl ⟨k4, k5⟩ (Or.inl k3) hN
      · cases hs
    · rename_i v a s2
      split at hs
      · rename_i hk
        cases hs
        obtain ⟨k1, rfl, k3⟩ := hk
        intro ad H locs cells slots L hW hst
        exact put_go (t := 1) (x := v) F hd hf k1 rfl (okV_hd hst) (Or.inl k3) hN ad H locs cells slots L hW hst
      · cases hs
    · rename_i v a s2
      split at hs
      · rename_i hk
        cases hs
        obtain ⟨k1, rfl, k3, k4⟩ := hk
        intro ad H locs cells slots L hW hst
        exact put_go (t := 2) (x := v) F hd hf k1 rfl (okV_hd hst) k4 hN ad H locs cells slots L hW hst
      · cases hs
    · cases hs
  | iaload =>
    obtain ⟨st2, hb, hz⟩ := nxs_inv hs
    cases hz
    unfold aget at hb
    split at hb
    · split at hb
      · rename_i hk
        cases hb
        exact sw_iaload F hi hk.1 hk.2.1 hk.2.2 hN
      · cases hb
    · cases hb
  | laload =>
    obtain ⟨st2, hb, hz⟩ := nxs_inv hs
    cases hz
    unfold aget at hb
    split at hb
    · split at hb
      · rename_i hk
        cases hb
        exact sw_laload F hi hk.1 hk.2.1 hk.2.2 hN
      · cases hb
    · cases hb
  | baload =>
    simp only [stp] at hs
    split at hs
    · split at hs
      · rename_i hk
        cases hs
        exact sw_baload F hi hk.1 hk.2.1 hk.2.2 hN
      · cases hs
    · cases hs
  | aaload =>
    simp only [stp] at hs
    split at hs
    · split at hs
      · rename_i hk
        cases hs
        exact sw_aaload F hi hk.1 hk.2.1 hk.2.2 hN
      · cases hs
    · cases hs
  | lastore =>
    simp only [stp] at hs
    split at hs
    · split at hs
      · rename_i hk
        cases hs
        exact sw_lastore F hi hk.1 hk.2.1 hk.2.2 hN
      · cases hs
    · cases hs
  | bastore =>
    simp only [stp] at hs
    split at hs
    · split at hs
      · rename_i hk
        cases hs
        exact sw_bastore F hi hk.1 hk.2.1 hk.2.2 hN
      · cases hs
    · cases hs
  | aastore =>
    simp only [stp] at hs
    split at hs
    · split at hs
      · rename_i hk
        cases hs
        exact sw_aastore F hi hk.1 hk.2.1 hk.2.2 hN
      · cases hs
    · cases hs
  | iastore =>
    simp only [stp] at hs
    split at hs
    · split at hs
      · rename_i hk
        cases hs
        exact sw_iastore F hi hk.1 hk.2.1 hk.2.2.1 hk.2.2.2 hN
      · cases hs
    · cases hs
  | arraylength =>
    simp only [stp] at hs
    split at hs
    · split at hs
      · rename_i hk
        cases hs
        exact sw_alen F hi hk hN
      · cases hs
    · cases hs
  | new i =>
    simp only [stp] at hs
    split at hs
    · rename_i ci hk
      cases hs
      exact sw_new F hi hk hcb hsb hN
    · cases hs
  | newarray t =>
    simp only [stp] at hs
    split at hs
    · rename_i ck n s2 hk
      split at hs
      · rename_i hz
        cases hs
        exact sw_newarray F hi hk hz.1 hz.2 hcb hsb hN
      · cases hs
    · cases hs
  | anewarray i =>
    simp only [stp] at hs
    split at hs
    · rename_i ci n s2 hk
      split at hs
      · rename_i hz
        cases hs
        exact sw_anewarray F hi hk hz.1 hz.2 hcb hsb hN
      · cases hs
    · cases hs
  | invokestatic i =>
    simp only [stp] at hs
    cases hit : itr (mcls k) i with
    | none => rw [hit] at hs; cases hs
    | some x =>
    rw [hit] at hs
    simp only at hs
    split at hs
    · rename_i hx
      obtain ⟨x1, x2, hw⟩ := hx
      have hx4 : x = 1 ∨ x = 2 ∨ x = 3 ∨ x = 4 := by omega
      rcases hx4 with rfl | rfl | rfl | rfl
      · match st, hs, hw, hN with
        | .inl a :: st2, hs, hw, hN =>
          cases hs
          exact sw_abs F hi hit hw hcb hsb hN
      · match st, hs, hw, hN with
        | .inl a2 :: .inl a :: st2, hs, hw, hN =>
          cases hs
          exact sw_max F hi hit hw hcb hsb hN
      · match st, hs, hw, hN with
        | .inl a2 :: .inl a :: st2, hs, hw, hN =>
          cases hs
          exact sw_min F hi hit hw hcb hsb hN
      · match st, hs, hw, hN with
        | .inl n :: .inl j :: .inr (.inr (.inl a2)) :: .inl i2 :: .inr (.inr (.inl a)) :: st2, hs, hw, hN =>
          simp only [xitr] at hs
          by_cases q : (gK g a = 20 ∨ gK g a = 21) ∧ gK g a2 = gK g a ∧ 0 ≤ a ∧ 0 ≤ a2 ∧ 0 ≤ i2 ∧ 0 ≤ j ∧ 0 ≤ n ∧ i2 + n ≤ gL g a ∧ j + n ≤ gL g a2
          · rw [if_pos q] at hs
            cases hs
            obtain ⟨q1, q2, q3, q4, q5, q6, q7, q8, q9⟩ := q
            exact sw_copy F hi hit hw q1 q2 q3 q4 q5 q6 q7 q8 q9 hN
          · rw [if_neg q] at hs; cases hs
    · cases hs
  | invokevirtual i =>
    simp only [stp] at hs
    cases hit : itr (mcls k) i with
    | none => rw [hit] at hs; cases hs
    | some x =>
    rw [hit] at hs
    simp only at hs
    split at hs
    · rename_i hx
      obtain ⟨x1, hw⟩ := hx
      have hx6 : x ≤ 6 := itr_le hit
      have hx4 : x = 5 ∨ x = 6 := by omega
      rcases hx4 with rfl | rfl
      · match st, hs, hw, hN with
        | .inr (.inr (.inl a)) :: st2, hs, hw, hN =>
          simp only [xitr] at hs
          by_cases q : a = -2 ∨ a = -3
          · rw [if_pos q] at hs
            cases hs
            exact sw_slen F hi hit hw q hcb hsb hN
          · rw [if_neg q] at hs; cases hs
      · match st, hs, hw, hN with
        | .inl j :: .inr (.inr (.inl a)) :: st2, hs, hw, hN =>
          simp only [xitr] at hs
          by_cases q : (a = -2 ∨ a = -3) ∧ 0 ≤ j ∧ j < ((sby a).length : Nat)
          · rw [if_pos q] at hs
            cases hs
            exact sw_char F hi hit hw q.1 q.2.1 q.2.2 hcb hsb hN
          · rw [if_neg q] at hs; cases hs
    · cases hs
  | invokespecial i =>
    simp only [stp] at hs
    split at hs
    · rename_i hit
      split at hs
      · rename_i hw
        match st, hs, hw, hN with
        | .inr (.inr (.inl a)) :: st2, hs, hw, hN =>
          simp only [xitr] at hs
          by_cases q : 0 ≤ a ∧ a < gN g
          · rw [if_pos q] at hs
            cases hs
            exact sw_objinit F hi hit hw q.1 hN
          · rw [if_neg q] at hs; cases hs
      · cases hs
    · cases hs
  | _ => cases hs
end WH
theorem nxs_g {n : Nat} {ls : List KV} {o : Option (List KV)} {g : KG} {h : KH} {pc1 : Nat} {ls1 st1 : List KV} {g1 : KG} {h1 : KH} (hz : nxs n ls o g h = some (pc1, ls1, st1, g1, h1)) : g1 = g := by
  obtain ⟨st, -, hz⟩ := nxs_inv hz
  cases hz
  rfl
theorem nxl_g {n : Nat} {o : Option (List KV × List KV)} {g : KG} {h : KH} {pc1 : Nat} {ls1 st1 : List KV} {g1 : KG} {h1 : KH} (hz : nxl n o g h = some (pc1, ls1, st1, g1, h1)) : g1 = g := by
  obtain ⟨ls, st, -, hz⟩ := nxl_inv hz
  cases hz
  rfl
theorem jmp_g {pc : Nat} {off : Int} {ls st : List KV} {g : KG} {h : KH} {pc1 : Nat} {ls1 st1 : List KV} {g1 : KG} {h1 : KH} (hz : jmp pc off ls st g h = some (pc1, ls1, st1, g1, h1)) : g1 = g := by
  obtain ⟨t, -, hz⟩ := jmp_inv hz
  cases hz
  rfl
def Grw (g g1 : KG) : Prop := gC g ≤ gC g1 ∧ gS g ≤ gS g1 ∧ gN g ≤ gN g1
theorem Grw.rf {g : KG} : Grw g g := ⟨Int.le_refl _, Int.le_refl _, Int.le_refl _⟩
theorem Grw.eq {g g1 : KG} (h : g1 = g) : Grw g g1 := h ▸ Grw.rf
theorem Grw.tr {g g1 g2 : KG} (h : Grw g g1) (h2 : Grw g1 g2) : Grw g g2 := ⟨Int.le_trans h.1 h2.1, Int.le_trans h.2.1 h2.2.1, Int.le_trans h.2.2 h2.2.2⟩
theorem Grw.mk2 {g : KG} {c n z : Int} (hz : 0 ≤ z) : Grw g (gnew g c n z) := ⟨by show gC g ≤ gC g + 1; omega, by show gS g ≤ gS g + z; omega, by show gN g ≤ gN g + 1; omega⟩
theorem stp_grow {k pc nx : Nat} {ins : Instr} {ls st : List KV} {g : KG} {h : KH} {pc1 : Nat} {ls1 st1 : List KV} {g1 : KG} {h1 : KH} (hs : stp k pc ins nx ls st g h = some (pc1, ls1, st1, g1, h1)) : Grw g g1 := by
  cases ins with
  | iadd => exact Grw.eq (nxs_g hs)
  | isub => exact Grw.eq (nxs_g hs)
  | imul => exact Grw.eq (nxs_g hs)
  | iand => exact Grw.eq (nxs_g hs)
  | ior => exact Grw.eq (nxs_g hs)
  | ixor => exact Grw.eq (nxs_g hs)
  | ladd => exact Grw.eq (nxs_g hs)
  | lsub => exact Grw.eq (nxs_g hs)
  | lmul => exact Grw.eq (nxs_g hs)
  | land => exact Grw.eq (nxs_g hs)
  | lor => exact Grw.eq (nxs_g hs)
  | lxor => exact Grw.eq (nxs_g hs)
  | idiv => exact Grw.eq (nxs_g hs)
  | irem => exact Grw.eq (nxs_g hs)
  | ldiv => exact Grw.eq (nxs_g hs)
  | lrem => exact Grw.eq (nxs_g hs)
  | ishl => exact Grw.eq (nxs_g hs)
  | ishr => exact Grw.eq (nxs_g hs)
  | iushr => exact Grw.eq (nxs_g hs)
  | lshl => exact Grw.eq (nxs_g hs)
  | lshr => exact Grw.eq (nxs_g hs)
  | i2b => exact Grw.eq (nxs_g hs)
  | i2s => exact Grw.eq (nxs_g hs)
  | iaload => exact Grw.eq (nxs_g hs)
  | laload => exact Grw.eq (nxs_g hs)
  | iload_n j => exact Grw.eq (nxs_g hs)
  | iload j => exact Grw.eq (nxs_g hs)
  | lload_n j => exact Grw.eq (nxs_g hs)
  | lload j => exact Grw.eq (nxs_g hs)
  | aload_n j => exact Grw.eq (nxs_g hs)
  | aload j => exact Grw.eq (nxs_g hs)
  | istore_n j => exact Grw.eq (nxl_g hs)
  | istore j => exact Grw.eq (nxl_g hs)
  | lstore_n j => exact Grw.eq (nxl_g hs)
  | lstore j => exact Grw.eq (nxl_g hs)
  | astore_n j => exact Grw.eq (nxl_g hs)
  | astore j => exact Grw.eq (nxl_g hs)
  | iconst v => cases hs; exact Grw.rf
  | bipush v => cases hs; exact Grw.rf
  | sipush v => cases hs; exact Grw.rf
  | lconst v => cases hs; exact Grw.rf
  | i2l =>
    simp only [stp] at hs
    split at hs <;> first | (cases hs; exact Grw.rf) | cases hs
  | l2i =>
    simp only [stp] at hs
    split at hs <;> first | (cases hs; exact Grw.rf) | cases hs
  | lcmp =>
    simp only [stp] at hs
    split at hs <;> first | (cases hs; exact Grw.rf) | cases hs
  | dup =>
    simp only [stp] at hs
    split at hs <;> first | (cases hs; exact Grw.rf) | cases hs
  | dup2 =>
    simp only [stp] at hs
    split at hs <;> first | (cases hs; exact Grw.rf) | cases hs
  | pop =>
    simp only [stp] at hs
    split at hs <;> first | (cases hs; exact Grw.rf) | cases hs
  | baload =>
    simp only [stp] at hs
    split at hs
    · split at hs <;> first | (cases hs; exact Grw.rf) | cases hs
    · cases hs
  | aaload =>
    simp only [stp] at hs
    split at hs
    · split at hs <;> first | (cases hs; exact Grw.rf) | cases hs
    · cases hs
  | lastore =>
    simp only [stp] at hs
    split at hs
    · split at hs <;> first | (cases hs; exact Grw.rf) | cases hs
    · cases hs
  | bastore =>
    simp only [stp] at hs
    split at hs
    · split at hs <;> first | (cases hs; exact Grw.rf) | cases hs
    · cases hs
  | aastore =>
    simp only [stp] at hs
    split at hs
    · split at hs <;> first | (cases hs; exact Grw.rf) | cases hs
    · cases hs
  | iastore =>
    simp only [stp] at hs
    split at hs
    · split at hs <;> first | (cases hs; exact Grw.rf) | cases hs
    · cases hs
  | arraylength =>
    simp only [stp] at hs
    split at hs
    · split at hs <;> first | (cases hs; exact Grw.rf) | cases hs
    · cases hs
  | ldc i =>
    simp only [stp] at hs
    split at hs <;> first | (cases hs; exact Grw.rf) | cases hs
  | ldc_w i =>
    simp only [stp] at hs
    split at hs <;> first | (cases hs; exact Grw.rf) | cases hs
  | ldc2_w i =>
    simp only [stp] at hs
    split at hs <;> first | (cases hs; exact Grw.rf) | cases hs
  | iinc j v =>
    simp only [stp] at hs
    split at hs <;> first | (cases hs; exact Grw.rf) | cases hs
  | goto off => exact Grw.eq (jmp_g hs)
  | ifCond cn off =>
    simp only [stp] at hs
    split at hs
    · split at hs
      · rename_i a s2 z hj
        obtain ⟨t, ht, rfl⟩ := jmp_inv hj
        split at hs <;> (cases hs; exact Grw.rf)
      · cases hs
    · cases hs
  | if_icmp cn off =>
    simp only [stp] at hs
    split at hs
    · split at hs
      · rename_i z hj
        obtain ⟨t, ht, rfl⟩ := jmp_inv hj
        split at hs <;> (cases hs; exact Grw.rf)
      · cases hs
    · cases hs
  | tableswitch df lo hi2 offs =>
    simp only [stp] at hs
    split at hs
    · split at hs
      · exact Grw.eq (jmp_g hs)
      · split at hs
        · exact Grw.eq (jmp_g hs)
        · cases hs
    · cases hs
  | lookupswitch df ps =>
    simp only [stp] at hs
    split at hs
    · split at hs
      · exact Grw.eq (jmp_g hs)
      · cases hs
    · cases hs
  | getfield i =>
    simp only [stp] at hs
    split at hs
    · split at hs <;> first | (cases hs; exact Grw.rf) | cases hs
    · cases hs
  | putfield i =>
    simp only [stp] at hs
    split at hs
    · split at hs
      · split at hs <;> first | (cases hs; exact Grw.rf) | cases hs
      · split at hs <;> first | (cases hs; exact Grw.rf) | cases hs
      · split at hs <;> first | (cases hs; exact Grw.rf) | cases hs
      · cases hs
    · cases hs
  | new i =>
    simp only [stp] at hs
    split at hs
    · rename_i ci hk
      cases hs
      exact Grw.mk2 (c := (ci : Nat)) (n := 0) (z := (nfl ci : Nat)) (Int.natCast_nonneg _)
    · cases hs
  | newarray t =>
    simp only [stp] at hs
    split at hs
    · rename_i ck n s2 hk
      split at hs
      · rename_i hz
        cases hs
        exact Grw.mk2 (c := ck) (n := n) (z := n) hz.1
      · cases hs
    · cases hs
  | anewarray i =>
    simp only [stp] at hs
    split at hs
    · rename_i ck n s2 hk
      split at hs
      · rename_i hz
        cases hs
        exact Grw.mk2 (c := (ck : Nat)) (n := n) (z := n) hz.1
      · cases hs
    · cases hs
  | invokestatic i =>
    simp only [stp] at hs
    split at hs
    · split at hs
      · split at hs <;> first | (cases hs; exact Grw.rf) | cases hs
      · cases hs
    · cases hs
  | invokevirtual i =>
    simp only [stp] at hs
    split at hs
    · split at hs
      · split at hs <;> first | (cases hs; exact Grw.rf) | cases hs
      · cases hs
    · cases hs
  | invokespecial i =>
    simp only [stp] at hs
    split at hs
    · split at hs
      · split at hs <;> first | (cases hs; exact Grw.rf) | cases hs
      · cases hs
    · cases hs
  | _ => cases hs
theorem exec_grow : ∀ (f d k pc : Nat) (ls st : List KV) (g : KG) (h : KH) (r : Option KV) (g1 : KG) (h1 : KH), exec f d k pc ls st g h = some (r, g1, h1) → Grw g g1 := by
  intro f
  induction f with
  | zero => intro d k pc ls st g h r g1 h1 hx; simp [exec] at hx
  | succ f ih =>
    intro d k pc ls st g h r g1 h1 hx
    rw [exec] at hx
    cases hfe : fetch k pc with
    | none => rw [hfe] at hx; simp at hx
    | some q =>
      obtain ⟨ins, nx⟩ := q
      rw [hfe] at hx
      simp only at hx
      cases hr : rets k ins st with
      | some r2 => rw [hr] at hx; simp only [Option.some.injEq, Prod.mk.injEq] at hx; obtain ⟨-, rfl, -⟩ := hx; exact Grw.rf
      | none =>
        rw [hr] at hx
        simp only at hx
        cases hc : calls k ins st g with
        | some q =>
          obtain ⟨k2, as, rest⟩ := q
          rw [hc] at hx
          simp only at hx
          cases d with
          | zero => simp at hx
          | succ e =>
            simp only at hx
            cases he : exec f e k2 0 (mkl as (mloc k2)) [] g h with
            | none => rw [he] at hx; simp at hx
            | some q =>
              obtain ⟨r2, g2, h2⟩ := q
              rw [he] at hx
              simp only at hx
              exact (ih _ _ _ _ _ _ _ _ _ _ he).tr (ih _ _ _ _ _ _ _ _ _ _ hx)
        | none =>
          rw [hc] at hx
          simp only at hx
          cases hs : stp k pc ins nx ls st g h with
          | none => rw [hs] at hx; simp at hx
          | some q =>
            obtain ⟨pc2, ls2, st2, g2, h2⟩ := q
            rw [hs] at hx
            simp only at hx
            exact (stp_grow hs).tr (ih _ _ _ _ _ _ _ _ _ _ hx)
/-- SOUND: what the abstract machine comes to, the real one comes to -/
theorem sound : ∀ f, SoundF f := by
  intro f
  induction f with
  | zero => intro d k pc ls st g h r g1 h1 hx; simp [exec] at hx
  | succ f ih =>
    intro d k pc ls st g h r g1 h1 hx p l e R s m args below meth c Q D dA A b t0 t1 ad0 n0 cb sb xs Ln F hcb hsb hEnd
    rw [exec] at hx
    cases hfe : fetch k pc with
    | none => rw [hfe] at hx; simp at hx
    | some q =>
      obtain ⟨ins, nx⟩ := q
      have hi := At_of hfe
      rw [hfe] at hx
      simp only at hx
      cases hr : rets k ins st with
      | some r2 =>
        rw [hr] at hx
        simp only [Option.some.injEq, Prod.mk.injEq] at hx
        obtain ⟨rfl, rfl, rfl⟩ := hx
        obtain ⟨hst, hfl⟩ := rets_inv hr
        obtain ⟨n1, hd, -, hln⟩ := hi
        rw [hfl] at hln
        have hn1 : n1 = 1 := by simpa using hln
        subst hn1
        subst hst
        intro ad H locs cells slots L hW hok hls hlen hlv had hn hP hD hS hc hs2
        exact hEnd ad H locs cells slots L pc ins hr hd hok had hn hP hD hS hc hs2 hW
      | none =>
        rw [hr] at hx
        simp only at hx
        cases hc : calls k ins st g with
        | some q =>
          obtain ⟨k2, as, rest⟩ := q
          rw [hc] at hx
          simp only at hx
          cases d with
          | zero => simp at hx
          | succ e1 =>
            simp only at hx
            cases he : exec f e1 k2 0 (mkl as (mloc k2)) [] g h with
            | none => rw [he] at hx; simp at hx
            | some q =>
              obtain ⟨r2, g2, h2⟩ := q
              rw [he] at hx
              simp only at hx
              have G1 := exec_grow _ _ _ _ _ _ _ _ _ _ _ he
              have G2 := exec_grow _ _ _ _ _ _ _ _ _ _ _ hx
              exact sw_call ih F hi hc he G1.1 G1.2.1 G1.2.2 (by have := G2.1; omega) (by have := G2.2.1; omega) (ih _ _ _ _ _ _ _ _ _ _ hx F hcb hsb hEnd)
        | none =>
          rw [hc] at hx
          simp only at hx
          cases hs : stp k pc ins nx ls st g h with
          | none => rw [hs] at hx; simp at hx
          | some q =>
            obtain ⟨pc2, ls2, st2, g2, h2⟩ := q
            rw [hs] at hx
            simp only at hx
            have G2 := exec_grow _ _ _ _ _ _ _ _ _ _ _ hx
            exact stp_ok F hi hs (by have := G2.1; omega) (by have := G2.2.1; omega) (ih _ _ _ _ _ _ _ _ _ _ hx F hcb hsb hEnd)
