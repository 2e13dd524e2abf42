/-- the words that go along with a call -/
def lgd : List Cond := lw_tbl.filter goodWord
theorem lg {w : Cond} (h : w ∈ lw_tbl) (hg : goodWord w = true) : w ∈ lgd := List.mem_filter.mpr ⟨h, hg⟩
theorem tb_wg : ∀ c, c < 13 → ∀ r, vwC[c]? = some r → ∀ w ∈ u_ws r.1 r.2.1 r.2.2, w ∈ lgd := by
  intro c hc r hr w hw
  refine lg (tb_ws c hc r hr w hw) ?_
  unfold u_ws at hw
  obtain ⟨i, -, rfl⟩ := List.mem_map.mp hw
  unfold u_lay
  split <;> rfl
/-! WORLDS: a heap of the abstract machine as cells of the real one. -/
def okR (g : KG) (a : Int) : Prop := (-4 ≤ a ∧ a ≤ -1) ∨ (0 ≤ a ∧ a < gN g)
def okV (g : KG) : KV → Prop
  | .inl a => in32 a
  | .inr (.inl a) => in64 a
  | .inr (.inr (.inl a)) => okR g a
  | .inr (.inr (.inr _)) => False
def tok (g : KG) (t : Nat) (v : Int) : Prop := match t with | 1 => in64 v | 2 => okR g v | 3 => 0 ≤ v ∧ v ≤ 1 | _ => in32 v
def dok (g : KG) (c j v : Int) : Prop :=
  if c < 20 then tok g (fty c.toNat j.toNat) v
  else if c = 21 then in64 v else if c = 22 then -128 ≤ v ∧ v ≤ 127 else if c = 23 then 0 ≤ v ∧ v ≤ 1 else if 24 ≤ c then okR g v else in32 v
def okW (xs : Nat → Int32) (Ln : Nat) (g : KG) (h : KH) : Prop :=
  0 ≤ gN g ∧ (∀ a, 0 ≤ gK g a → a = -4 ∨ (0 ≤ a ∧ a < gN g)) ∧ (∀ a, 0 ≤ a → a < gN g → ((0 ≤ gK g a ∧ gK g a < 13) ∨ (20 ≤ gK g a ∧ gK g a ≤ 25)) ∧ (0 ≤ gL g a ∧ gL g a ≤ 60000) ∧ ∀ j, dok g (gK g a) j (h a j)) ∧ gK g (-4) = 20 ∧ gL g (-4) = (Ln : Int) ∧ (∀ j : Nat, j < Ln → h (-4) (j : Int) = (xs j).toInt) ∧ Ln ≤ 100000
def rv (ad : Int → Nat) : KV → Value
  | .inl a => .int (Int32.ofInt a)
  | .inr (.inl a) => .long (Int64.ofInt a)
  | .inr (.inr (.inl a)) => if a = -1 then .null else .ref (ad a)
  | .inr (.inr (.inr _)) => .null
def ro (ad : Int → Nat) (v : Int) : Option Nat := if v = -1 then none else some (ad v)
def rf (ad : Int → Nat) (t : Nat) (v : Int) : Value := match t with | 1 => .long (Int64.ofInt v) | 2 => rv ad (xR v) | _ => .int (Int32.ofInt v)
def cel (dA : Nat → ClassId) (ad : Int → Nat) (g : KG) (h : KH) (a : Int) : va_E :=
  if gK g a < 20 then .inr ((gK g a).toNat, (List.range (nfl (gK g a).toNat)).map fun j => rf ad (fty (gK g a).toNat j) (h a (j : Nat)))
  else if gK g a = 21 then .inl (dA 1, (gL g a).toNat, .inr (.inl fun j => Int64.ofInt (h a (j : Nat))))
  else if 24 ≤ gK g a then .inl (dA (gK g a - 20).toNat, (gL g a).toNat, .inr (.inr (.inr (.inr fun j => ro ad (h a (j : Nat))))))
  else .inl (dA (gK g a - 20).toNat, (gL g a).toNat, .inl fun j => Int32.ofInt (h a (j : Nat)))
def wl (dA : Nat → ClassId) (ad : Int → Nat) (g : KG) (h : KH) : va_W := (List.range (gN g).toNat).map fun i => (ad (i : Nat), cel dA ad g h (i : Nat))
def tysA (dA : Nat → ClassId) : List (ClassId × FieldType) := [(dA 0, .int), (dA 1, .long), (dA 2, .byte), (dA 3, .boolean), (dA 4, .object RX10), (dA 5, .object RX7)]
theorem ro_rf (ad : Int → Nat) (v : Int) : va_rf (ro ad v) = rv ad (xR v) := by
  unfold ro rv
  by_cases q : v = -1
  · rw [if_pos q]; simp [q, va_rf]
  · rw [if_neg q]; simp [q, va_rf]
theorem wl_len (dA : Nat → ClassId) (ad : Int → Nat) (g : KG) (h : KH) : (wl dA ad g h).length = (gN g).toNat := by simp [wl]
theorem wl_at {dA : Nat → ClassId} {ad : Int → Nat} {g : KG} {h : KH} {a : Int} (h0 : 0 ≤ a) (h1 : a < gN g) : (wl dA ad g h)[a.toNat]? = some (ad a, cel dA ad g h a) := by
  unfold wl
  rw [List.getElem?_map, List.getElem?_range (by omega)]
  have e : ((a.toNat : Nat) : Int) = a := by omega
  simp only [Option.map_some, e]
theorem wl_nat {dA : Nat → ClassId} {ad : Int → Nat} {g : KG} {h : KH} {i : Nat} (h1 : i < (gN g).toNat) : (wl dA ad g h)[i]? = some (ad (i : Nat), cel dA ad g h (i : Nat)) := by
  unfold wl
  rw [List.getElem?_map, List.getElem?_range h1]
  rfl
theorem cel_same {dA : Nat → ClassId} {ad : Int → Nat} {g : KG} {h h1 : KH} {a : Int} (hh : ∀ j, h1 a j = h a j) : cel dA ad g h1 a = cel dA ad g h a := by
  unfold cel
  simp only [hh]
theorem wl_set {dA : Nat → ClassId} {ad : Int → Nat} {g : KG} {h h1 : KH} {a : Int} (h0 : 0 ≤ a) (hn : a < gN g) (hh : ∀ b, b ≠ a → ∀ j, h1 b j = h b j) : (wl dA ad g h).set a.toNat (ad a, cel dA ad g h1 a) = wl dA ad g h1 := by
  apply List.ext_getElem?
  intro i
  by_cases hi : i < (gN g).toNat
  · rw [wl_nat hi, List.getElem?_set]
    by_cases e : a.toNat = i
    · have e2 : ((i : Nat) : Int) = a := by omega
      rw [if_pos e, if_pos (by rw [wl_len]; omega), e2]
    · rw [if_neg e, wl_nat hi, cel_same (hh _ (by omega))]
  · have l1 : (wl dA ad g h1)[i]? = none := by rw [List.getElem?_eq_none]; rw [wl_len]; omega
    have l2 : ((wl dA ad g h).set a.toNat (ad a, cel dA ad g h1 a))[i]? = none := by rw [List.getElem?_eq_none]; rw [List.length_set, wl_len]; omega
    rw [l1, l2]
theorem rf_ad {ad ad1 : Int → Nat} {t : Nat} {v : Int} (hv : t = 2 → ad1 v = ad v) : rf ad1 t v = rf ad t v := by
  unfold rf
  split
  · rfl
  · rw [rv, rv, hv rfl]
  · rfl
theorem ro_ad {ad ad1 : Int → Nat} {v : Int} (hv : ad1 v = ad v) : ro ad1 v = ro ad v := by unfold ro; rw [hv]
theorem cel_ad {dA : Nat → ClassId} {ad ad1 : Int → Nat} {g g1 : KG} {h h1 : KH} {a : Int} (hk : gK g1 a = gK g a) (hl : gL g1 a = gL g a) (hh : ∀ j, h1 a j = h a j) (hd : ∀ j, dok g (gK g a) j (h a j)) (hv : ∀ v, okR g v → ad1 v = ad v) : cel dA ad1 g1 h1 a = cel dA ad g h a := by
  unfold cel
  simp only [hk, hl, hh]
  by_cases c1 : gK g a < 20
  · rw [if_pos c1, if_pos c1]
    congr 2
    apply List.map_congr_left
    intro j _
    refine rf_ad (fun ht => hv _ ?_)
    have := hd (j : Nat)
    unfold dok at this
    rw [if_pos c1] at this
    simp only [Int.toNat_natCast, ht] at this
    exact this
  · rw [if_neg c1, if_neg c1]
    by_cases c2 : gK g a = 21
    · rw [if_pos c2, if_pos c2]
    · rw [if_neg c2, if_neg c2]
      by_cases c3 : 24 ≤ gK g a
      · rw [if_pos c3, if_pos c3]
        have e : (fun j : Nat => ro ad1 (h a (j : Nat))) = fun j : Nat => ro ad (h a (j : Nat)) := by
          funext j
          refine ro_ad (hv _ ?_)
          have := hd (j : Nat)
          unfold dok at this
          rw [if_neg c1, if_neg c2, if_neg (by omega), if_neg (by omega), if_pos c3] at this
          exact this
        rw [e]
      · rw [if_neg c3, if_neg c3]
theorem wl_push {dA : Nat → ClassId} {ad ad1 : Int → Nat} {g g1 : KG} {h h1 : KH} (hn0 : 0 ≤ gN g) (hn : gN g1 = gN g + 1) (hk : ∀ a, a ≠ gN g → gK g1 a = gK g a ∧ gL g1 a = gL g a ∧ ∀ j, h1 a j = h a j) (hd : ∀ a, 0 ≤ a → a < gN g → ∀ j, dok g (gK g a) j (h a j)) (hv : ∀ v, v ≠ gN g → ad1 v = ad v) : wl dA ad1 g1 h1 = wl dA ad g h ++ [(ad1 (gN g), cel dA ad1 g1 h1 (gN g))] := by
  unfold wl
  have e : (gN g1).toNat = (gN g).toNat + 1 := by omega
  rw [e, List.range_succ, List.map_append]
  congr 1
  · apply List.map_congr_left
    intro i hi
    rw [List.mem_range] at hi
    have hne : ((i : Nat) : Int) ≠ gN g := by omega
    obtain ⟨k1, k2, k3⟩ := hk _ hne
    rw [hv _ hne, cel_ad k1 k2 k3 (hd _ (by omega) (by omega)) (fun v ho => hv v (by unfold okR at ho; omega))]
  · have e2 : (((gN g).toNat : Nat) : Int) = gN g := by omega
    simp only [List.map_cons, List.map_nil, e2]
/-- the locals -/
def lvr (ad : Int → Nat) (ls : List KV) (L : Array Slot) (n : Nat) : Prop := L.size = n ∧ lv_wf L ∧ ∀ (j : Nat) (v : KV), ls[j]? = some v → v ≠ xU → L[j]? = some (.val (rv ad v))
def lvo (ad : Int → Nat) (j : Nat) (o : Option KV) : Option (Nat × Value) := match o with | some (.inr (.inr (.inr _))) => none | some v => some (j, rv ad v) | none => none
def lvl (ad : Int → Nat) (ls : List KV) : List (Nat × Value) := (List.range ls.length).filterMap fun j => lvo ad j ls[j]?
theorem lvl_mem {ad : Int → Nat} {ls : List KV} {q : Nat × Value} : q ∈ lvl ad ls ↔ ∃ v, ls[q.1]? = some v ∧ v ≠ xU ∧ q.2 = rv ad v := by
  unfold lvl
  rw [List.mem_filterMap]
  constructor
  · rintro ⟨j, hj, h⟩
    cases hl : ls[j]? with
    | none => rw [hl] at h; cases h
    | some v =>
      rw [hl] at h
      rcases v with a | a | a | a
      · cases h; exact ⟨_, hl, (fun e => by cases e), rfl⟩
      · cases h; exact ⟨_, hl, (fun e => by cases e), rfl⟩
      · cases h; exact ⟨_, hl, (fun e => by cases e), rfl⟩
      · cases h
  · rintro ⟨v, h1, h2, h3⟩
    refine ⟨q.1, List.mem_range.mpr (List.getElem?_eq_some_iff.mp h1).1, ?_⟩
    obtain ⟨q1, q2⟩ := q
    simp only at h1 h3 ⊢
    rw [h1, h3]
    rcases v with a | a | a | a
    · rfl
    · rfl
    · rfl
    · exact absurd rfl h2
theorem lvr_has {ad : Int → Nat} {ls : List KV} {L : Array Slot} {n : Nat} : lvr ad ls L n ↔ lv_has L n (lvl ad ls) := by
  unfold lvr lv_has
  refine and_congr Iff.rfl (and_congr Iff.rfl ?_)
  constructor
  · intro h q hq
    obtain ⟨v, h1, h2, h3⟩ := lvl_mem.mp hq
    rw [h3]
    exact h _ _ h1 h2
  · intro h j v h1 h2
    exact h (j, rv ad v) (lvl_mem.mpr ⟨v, h1, h2, rfl⟩)
theorem rv_cat (ad : Int → Nat) (v : KV) : (rv ad v).category = catN v := by
  rcases v with a | a | a | a
  · rfl
  · rfl
  · unfold rv catN; simp only; split <;> rfl
  · rfl
theorem lvr_ad {ad ad1 : Int → Nat} {ls : List KV} {L : Array Slot} {n : Nat} (h : lvr ad ls L n) (hv : ∀ v ∈ ls, v ≠ xU → rv ad1 v = rv ad v) : lvr ad1 ls L n := by
  refine ⟨h.1, h.2.1, fun j v h1 h2 => ?_⟩
  rw [hv v (List.mem_of_getElem? h1) h2]
  exact h.2.2 j v h1 h2
theorem stI_len (ls : List KV) (j : Nat) (v : KV) : (stI ls j v).length = ls.length := by
  unfold stI
  split
  · simp
  · split <;> simp
theorem stL_len (ls : List KV) (j : Nat) (v : KV) : (stL ls j v).length = ls.length := by unfold stL; rw [List.length_set, stI_len]
theorem stI_get {ls : List KV} {i j : Nat} {v w : KV} (h : (stI ls i v)[j]? = some w) (hw : w ≠ xU) : (j = i ∧ w = v) ∨ (j ≠ i ∧ ls[j]? = some w ∧ ¬ (j + 1 = i ∧ catN w = 2)) := by
  unfold stI at h
  split at h
  · rw [List.getElem?_set] at h
    split at h
    · rename_i e
      split at h
      · cases h; exact Or.inl ⟨e.symm, rfl⟩
      · cases h
    · rename_i e
      exact Or.inr ⟨fun q => e q.symm, h, fun q => by omega⟩
  · rename_i i
    split at h
    · rename_i a hl
      rw [List.getElem?_set] at h
      split at h
      · rename_i e
        split at h
        · cases h; exact Or.inl ⟨e.symm, rfl⟩
        · cases h
      · rename_i e
        rw [List.getElem?_set] at h
        split at h
        · split at h
          · cases h; exact absurd rfl hw
          · cases h
        · rename_i e2
          exact Or.inr ⟨fun q => e q.symm, h, fun q => e2 (by omega)⟩
    · rename_i hl
      rw [List.getElem?_set] at h
      split at h
      · rename_i e
        split at h
        · cases h; exact Or.inl ⟨e.symm, rfl⟩
        · cases h
      · rename_i e
        refine Or.inr ⟨fun q => e q.symm, h, fun q => ?_⟩
        have e3 : j = i := by omega
        subst e3
        rcases w with a | a | a | a
        · cases q.2
        · exact hl a h
        · cases q.2
        · cases q.2
/-- storing a value of one place -/
theorem lvr_stI {ad : Int → Nat} {ls : List KV} {L1 : Array Slot} {n i : Nat} {v : KV} (h : lv_has L1 n ((i, rv ad v) :: (lvl ad ls).filter (fun q => !(q.1 == i) && !(q.1 + 1 == i && q.2.category == 2)))) : lvr ad (stI ls i v) L1 n := by
  refine ⟨h.1, h.2.1, fun j w h1 h2 => ?_⟩
  rcases stI_get h1 h2 with ⟨rfl, rfl⟩ | ⟨e1, e2, e3⟩
  · exact h.2.2 (j, rv ad w) List.mem_cons_self
  · refine h.2.2 (j, rv ad w) (List.mem_cons_of_mem _ (List.mem_filter.mpr ⟨lvl_mem.mpr ⟨w, e2, h2, rfl⟩, ?_⟩))
    rw [← rv_cat ad] at e3
    simp only [Bool.and_eq_true, Bool.not_eq_true', beq_eq_false_iff_ne, ne_eq, Bool.and_eq_false_iff]
    refine ⟨e1, ?_⟩
    by_cases q : j + 1 = i
    · exact Or.inr (fun z => e3 ⟨q, z⟩)
    · exact Or.inl q
theorem lvr_stL {ad : Int → Nat} {ls : List KV} {L1 : Array Slot} {n i : Nat} {v : KV} (h : lv_has L1 n ((i, rv ad v) :: (lvl ad ls).filter (fun q => !(q.1 == i) && (!(q.1 == i + 1) && !(q.1 + 1 == i && q.2.category == 2))))) : lvr ad (stL ls i v) L1 n := by
  refine ⟨h.1, h.2.1, fun j w h1 h2 => ?_⟩
  unfold stL at h1
  rw [List.getElem?_set] at h1
  split at h1
  · split at h1
    · cases h1; exact absurd rfl h2
    · cases h1
  · rename_i e0
    rcases stI_get h1 h2 with ⟨rfl, rfl⟩ | ⟨e1, e2, e3⟩
    · exact h.2.2 (j, rv ad w) List.mem_cons_self
    · refine h.2.2 (j, rv ad w) (List.mem_cons_of_mem _ (List.mem_filter.mpr ⟨lvl_mem.mpr ⟨w, e2, h2, rfl⟩, ?_⟩))
      rw [← rv_cat ad] at e3
      simp only [Bool.and_eq_true, Bool.not_eq_true', beq_eq_false_iff_ne, ne_eq, Bool.and_eq_false_iff]
      refine ⟨e1, fun q => e0 q.symm, ?_⟩
      by_cases q : j + 1 = i
      · exact Or.inr (fun z => e3 ⟨q, z⟩)
      · exact Or.inl q
/-- the locals of a call -/
theorem lay_args (ad : Int → Nat) : ∀ (as : List KV) (i j : Nat) (v : KV), (∀ w ∈ as, w ≠ xU) → (lay as)[j]? = some v → v ≠ xU → (i + j, rv ad v) ∈ lv_args i (as.map (rv ad))
  | [], i, j, v, _, h, _ => by simp [lay] at h
  | .inl a :: l, i, j, v, hn, h, hv => by
    cases j with
    | zero => simp [lay] at h; subst h; exact List.mem_cons_self
    | succ j =>
      have h1 : (lay l)[j]? = some v := by simpa [lay] using h
      have := lay_args ad l (i + 1) j v (fun w hw => hn w (List.mem_cons_of_mem _ hw)) h1 hv
      refine List.mem_cons_of_mem _ ?_
      have e : i + (j + 1) = i + 1 + j := by omega
      rw [e]
      exact this
  | .inr (.inl a) :: l, i, j, v, hn, h, hv => by
    cases j with
    | zero => simp [lay] at h; subst h; exact List.mem_cons_self
    | succ j =>
      cases j with
      | zero => simp [lay] at h; exact absurd h.symm hv
      | succ j =>
        have h1 : (lay l)[j]? = some v := by simpa [lay] using h
        have := lay_args ad l (i + 2) j v (fun w hw => hn w (List.mem_cons_of_mem _ hw)) h1 hv
        refine List.mem_cons_of_mem _ ?_
        have e : i + (j + 1 + 1) = i + 2 + j := by omega
        rw [e]
        exact this
  | .inr (.inr (.inl a)) :: l, i, j, v, hn, h, hv => by
    cases j with
    | zero => simp [lay] at h; subst h; exact List.mem_cons_self
    | succ j =>
      have h1 : (lay l)[j]? = some v := by simpa [lay] using h
      have := lay_args ad l (i + 1) j v (fun w hw => hn w (List.mem_cons_of_mem _ hw)) h1 hv
      refine List.mem_cons_of_mem _ ?_
      have e : i + (j + 1) = i + 1 + j := by omega
      have c : (rv ad (xR a)).category ≠ 2 := by rw [rv_cat]; show (1 : Nat) ≠ 2; decide
      show _ ∈ lv_args (if (rv ad (xR a)).category = 2 then i + 2 else i + 1) (l.map (rv ad))
      rw [e, if_neg c]
      exact this
  | .inr (.inr (.inr ())) :: l, i, j, v, hn, h, hv => absurd rfl (hn xU List.mem_cons_self)
theorem lay_len (ad : Int → Nat) : ∀ (as : List KV), (lay as).length = (lg_sl (as.map (rv ad))).length
  | [] => rfl
  | .inl a :: l => by
    have := lay_len ad l
    simp only [lay, List.length_cons, List.map_cons, lg_sl, List.flatMap_cons] at this ⊢
    rw [this, List.length_append]
    simp [rv, Value.category]; omega
  | .inr (.inl a) :: l => by
    have := lay_len ad l
    simp only [lay, List.length_cons, List.map_cons, lg_sl, List.flatMap_cons] at this ⊢
    rw [this, List.length_append]
    simp [rv, Value.category]; omega
  | .inr (.inr (.inl a)) :: l => by
    have := lay_len ad l
    have c : (rv ad (xR a)).category ≠ 2 := by rw [rv_cat]; show (1 : Nat) ≠ 2; decide
    simp only [lay, List.length_cons, List.map_cons, lg_sl, List.flatMap_cons] at this ⊢
    rw [this, List.length_append, if_neg c]
    simp; omega
  | .inr (.inr (.inr ())) :: l => by
    have := lay_len ad l
    simp only [lay, List.length_cons, List.map_cons, lg_sl, List.flatMap_cons] at this ⊢
    rw [this, List.length_append]
    simp [rv, Value.category]; omega
theorem lvr_entry {ad : Int → Nat} {as : List KV} {n : Nat} (hn : ∀ w ∈ as, w ≠ xU) (hl : (lay as).length ≤ n) : lvr ad (mkl as n) ((lg_sl (as.map (rv ad)) ++ List.replicate (n - (lg_sl (as.map (rv ad))).length) Slot.unset).toArray) n := by
  have hle : (lg_sl (as.map (rv ad))).length ≤ n := by rw [← lay_len]; exact hl
  have h := lv_entry (as.map (rv ad)) hle
  refine ⟨h.1, h.2.1, fun j v h1 h2 => ?_⟩
  unfold mkl at h1
  by_cases hj : j < (lay as).length
  · rw [List.getElem?_append_left hj] at h1
    have := lay_args ad as 0 j v hn h1 h2
    rw [Nat.zero_add] at this
    exact h.2.2 _ this
  · rw [List.getElem?_append_right (by omega)] at h1
    exact absurd (List.eq_of_mem_replicate (List.mem_of_getElem? h1)) h2
