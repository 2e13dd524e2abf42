/-! THE LAW'S CASES: each call, class and model, from a world to the next (printed by wip/tools/mk99j.py) -/
def LwI (g : KG) (h : KH) (W : Wd) (Ln : Int) : Prop := (CR g h W) ∧ (MR g h W) ∧ (gK g (-4) = 20) ∧ (gL g (-4) = Ln) ∧ (0 ≤ Ln ∧ Ln ≤ 3072) ∧ (∀ j, -2147483648 ≤ h (-4) j ∧ h (-4) j ≤ 2147483647) ∧ (gC g ≤ 600000) ∧ (gS g ≤ 7302250)
theorem LwI.c {g : KG} {h : KH} {W : Wd} {Ln : Int} (z_ : LwI g h W Ln) : CR g h W := z_.1
theorem LwI.m {g : KG} {h : KH} {W : Wd} {Ln : Int} (z_ : LwI g h W Ln) : MR g h W := z_.2.1
theorem LwI.ks {g : KG} {h : KH} {W : Wd} {Ln : Int} (z_ : LwI g h W Ln) : gK g (-4) = 20 := z_.2.2.1
theorem LwI.ls {g : KG} {h : KH} {W : Wd} {Ln : Int} (z_ : LwI g h W Ln) : gL g (-4) = Ln := z_.2.2.2.1
theorem LwI.lm {g : KG} {h : KH} {W : Wd} {Ln : Int} (z_ : LwI g h W Ln) : 0 ≤ Ln ∧ Ln ≤ 3072 := z_.2.2.2.2.1
theorem LwI.ar {g : KG} {h : KH} {W : Wd} {Ln : Int} (z_ : LwI g h W Ln) : ∀ j, -2147483648 ≤ h (-4) j ∧ h (-4) j ≤ 2147483647 := z_.2.2.2.2.2.1
theorem LwI.n1 {g : KG} {h : KH} {W : Wd} {Ln : Int} (z_ : LwI g h W Ln) : gC g ≤ 600000 := z_.2.2.2.2.2.2.1
theorem LwI.n2 {g : KG} {h : KH} {W : Wd} {Ln : Int} (z_ : LwI g h W Ln) : gS g ≤ 7302250 := z_.2.2.2.2.2.2.2
theorem CR.kept {g : KG} {h h2 : KH} {W : Wd} (C : CR g h W) (e : ∀ a, a < 138 → h2 a = h a) : CR g h2 W := by
  have U := C.upd (h2 := h2) (fun a _ y _ => e a y) (fun j _ _ _ => by rw [e 0 (by decide)]) (by rw [e 35 (by decide)])
  obtain ⟨l, r, l2, r2, C1, C2, C3, -⟩ := C
  rw [e 0 (by decide), C3.stt, C3.top, C3.bot] at U
  exact U
theorem MR.kept {g : KG} {h h2 : KH} {W : Wd} (C : MR g h W) (e : ∀ a, (a < 0 ∨ 138 ≤ a) → h2 a = h a) : MR g h2 W := by
  have U := C.upd (h2 := h2) (fun a y _ _ => e a (by omega)) (fun j _ => by rw [e 138 (by decide)])
  have X := C.2.1
  rw [e 138 (by decide), X.stt, X.top, X.bot] at U
  exact U
theorem CR.tb {g : KG} {h : KH} {W : Wd} (C : CR g h W) : W.tb := by
  obtain ⟨l, r, l2, r2, C1, C2, C3, C4, C5, C6, C7⟩ := C
  exact C5.tb
theorem CR.hmr {g : KG} {h : KH} {W : Wd} (C : CR g h W) : W.hm = -1 ∨ (0 ≤ W.hm ∧ W.hm ≤ 6) := by
  obtain ⟨l, r, l2, r2, C1, C2, C3, C4, C5, C6, C7⟩ := C
  exact C3.hd.imp (fun z => z) (fun z => ⟨z.1, z.2.1⟩)
theorem CR.cok {g : KG} {h : KH} {W : Wd} (C : CR g h W) : W.cur.Ok := by
  obtain ⟨l, r, l2, r2, C1, C2, C3, C4, C5, C6, C7⟩ := C
  exact C7.O
theorem CR.k11 {g : KG} {h : KH} {W : Wd} (C : CR g h W) : gK g 0 = 11 := by
  obtain ⟨l, r, l2, r2, C1, C2, C3, C4, C5, C6, C7⟩ := C
  exact C3.k0
/-- the world after a call that both have made -/
theorem LwI.go {g : KG} {h h2 h3 : KH} {W W2 : Wd} {Ln : Int} (I : LwI g h W Ln) (c : CR g h2 W2) (e2 : ∀ a, (a < 0 ∨ 138 ≤ a) → h2 a = h a) (m : MR g h3 W2) (e3 : ∀ a, a < 138 → h3 a = h2 a) : LwI g h3 W2 Ln :=
  ⟨c.kept e3, m, I.ks, I.ls, I.lm, fun j => by rw [e3 (-4) (by decide), e2 (-4) (by decide)]; exact I.ar j, I.n1, I.n2⟩
theorem K0 {g : KG} {h : KH} {W : Wd} {Ln : Int} (I : LwI g h W Ln) {i : Int} (i0 : 0 ≤ i) (i1 : i + 6 ≤ Ln) {d : Nat} {Q : Option KV → KG → KH → Prop} (nx : ∀ (W2 : Wd) (h2 : KH), LwI g h2 W2 Ln → Rn (d + 40) 266 1650 [xR (-4), xR 0, xR 138, xI i] [] g h2 Q) : Rn (d + 40) 266 220 [xR (-4), xR 0, xR 138, xI i] [] g h Q := by
  have lm := I.lm
  have k11 := I.c.k11
  have k12 := I.m.1.k0
  rw [B266_220, ga k11]
  refine C90 g h I.c (d + 39) _ (fun h2 c2 e2 => ?_)
  have m2 := I.m.kept e2
  have e4 := e2 (-4) (by decide)
  rw [o1, List.cons_append, List.nil_append, B266_224, ga k12]
  refine C157 g h2 m2 I.c.cok (d + 39) _ (fun h3 m3 e3 => ?_)
  rw [o1, List.cons_append, List.nil_append, B266_228, if_pos rfl]
  exact nx _ h3 (I.go c2 e2 m3 e3)
theorem K1 {g : KG} {h : KH} {W : Wd} {Ln : Int} (I : LwI g h W Ln) {i : Int} (i0 : 0 ≤ i) (i1 : i + 6 ≤ Ln) {d : Nat} {Q : Option KV → KG → KH → Prop} (nx : ∀ (W2 : Wd) (h2 : KH), LwI g h2 W2 Ln → Rn (d + 40) 266 1650 [xR (-4), xR 0, xR 138, xI i] [] g h2 Q) : Rn (d + 40) 266 233 [xR (-4), xR 0, xR 138, xI i] [] g h Q := by
  have lm := I.lm
  have k11 := I.c.k11
  have k12 := I.m.1.k0
  rw [B266_233, ga k11]
  refine C91 g h I.c (d + 39) _ (fun h2 c2 e2 => ?_)
  have m2 := I.m.kept e2
  have e4 := e2 (-4) (by decide)
  rw [o1, List.cons_append, List.nil_append, B266_237, ga k12]
  refine C158 g h2 m2 I.c.cok (d + 39) _ (fun h3 m3 e3 => ?_)
  rw [o1, List.cons_append, List.nil_append, B266_241, if_pos ((c64eq _ _).mpr rfl)]
  exact nx _ h3 (I.go c2 e2 m3 e3)
theorem K2 {g : KG} {h : KH} {W : Wd} {Ln : Int} (I : LwI g h W Ln) {i : Int} (i0 : 0 ≤ i) (i1 : i + 6 ≤ Ln) {d : Nat} {Q : Option KV → KG → KH → Prop} (nx : ∀ (W2 : Wd) (h2 : KH), LwI g h2 W2 Ln → Rn (d + 40) 266 1650 [xR (-4), xR 0, xR 138, xI i] [] g h2 Q) : Rn (d + 40) 266 247 [xR (-4), xR 0, xR 138, xI i] [] g h Q := by
  have lm := I.lm
  have k11 := I.c.k11
  have k12 := I.m.1.k0
  rw [B266_247, ga k11]
  refine C92 g h I.c (d + 39) _ (fun h2 c2 e2 => ?_)
  have m2 := I.m.kept e2
  have e4 := e2 (-4) (by decide)
  rw [o1, List.cons_append, List.nil_append, B266_251, ga k12]
  refine C159 g h2 m2 I.c.cok (d + 39) _ (fun h3 m3 e3 => ?_)
  rw [o1, List.cons_append, List.nil_append, B266_255, if_pos ((c64eq _ _).mpr rfl)]
  exact nx _ h3 (I.go c2 e2 m3 e3)
theorem K3 {g : KG} {h : KH} {W : Wd} {Ln : Int} (I : LwI g h W Ln) {i : Int} (i0 : 0 ≤ i) (i1 : i + 6 ≤ Ln) {d : Nat} {Q : Option KV → KG → KH → Prop} (nx : ∀ (W2 : Wd) (h2 : KH), LwI g h2 W2 Ln → Rn (d + 40) 266 1650 [xR (-4), xR 0, xR 138, xI i] [] g h2 Q) : Rn (d + 40) 266 261 [xR (-4), xR 0, xR 138, xI i] [] g h Q := by
  have lm := I.lm
  have k11 := I.c.k11
  have k12 := I.m.1.k0
  have rd1 : gK g (-4) = 20 ∧ 0 ≤ w32 (i + (1 : Int)) ∧ w32 (i + (1 : Int)) < gL g (-4) := ⟨I.ks, by rw [w32_id (by omega) (by omega)]; omega, by rw [w32_id (by omega) (by omega), I.ls]; omega⟩
  have rd2 : gK g (-4) = 20 ∧ 0 ≤ w32 (i + (2 : Int)) ∧ w32 (i + (2 : Int)) < gL g (-4) := ⟨I.ks, by rw [w32_id (by omega) (by omega)]; omega, by rw [w32_id (by omega) (by omega), I.ls]; omega⟩
  have rd3 : gK g (-4) = 20 ∧ 0 ≤ w32 (i + (3 : Int)) ∧ w32 (i + (3 : Int)) < gL g (-4) := ⟨I.ks, by rw [w32_id (by omega) (by omega)]; omega, by rw [w32_id (by omega) (by omega), I.ls]; omega⟩
  rw [B266_261, ga (rd1), ga (rd2), ga (rd3), ga k11]
  refine C93 g h I.c (d + 37) _ (fun h2 c2 e2 => ?_)
  have m2 := I.m.kept e2
  have e4 := e2 (-4) (by decide)
  rw [o1, List.cons_append, List.nil_append, B266_280, ga (rd1), ga (rd2), ga (rd3), ga k12, e4]
  refine (C166 I.c.rg) g h2 m2 I.c.cok (d + 38) _ (fun h3 m3 e3 => ?_)
  rw [o1, List.cons_append, List.nil_append, B266_299, if_pos rfl]
  exact nx _ h3 (I.go c2 e2 m3 e3)
theorem K4 {g : KG} {h : KH} {W : Wd} {Ln : Int} (I : LwI g h W Ln) {i : Int} (i0 : 0 ≤ i) (i1 : i + 6 ≤ Ln) {d : Nat} {Q : Option KV → KG → KH → Prop} (nx : ∀ (W2 : Wd) (h2 : KH), LwI g h2 W2 Ln → Rn (d + 40) 266 1650 [xR (-4), xR 0, xR 138, xI i] [] g h2 Q) : Rn (d + 40) 266 304 [xR (-4), xR 0, xR 138, xI i] [] g h Q := by
  have lm := I.lm
  have k11 := I.c.k11
  have k12 := I.m.1.k0
  have rd1 : gK g (-4) = 20 ∧ 0 ≤ w32 (i + (1 : Int)) ∧ w32 (i + (1 : Int)) < gL g (-4) := ⟨I.ks, by rw [w32_id (by omega) (by omega)]; omega, by rw [w32_id (by omega) (by omega), I.ls]; omega⟩
  have rd2 : gK g (-4) = 20 ∧ 0 ≤ w32 (i + (2 : Int)) ∧ w32 (i + (2 : Int)) < gL g (-4) := ⟨I.ks, by rw [w32_id (by omega) (by omega)]; omega, by rw [w32_id (by omega) (by omega), I.ls]; omega⟩
  have rd3 : gK g (-4) = 20 ∧ 0 ≤ w32 (i + (3 : Int)) ∧ w32 (i + (3 : Int)) < gL g (-4) := ⟨I.ks, by rw [w32_id (by omega) (by omega)]; omega, by rw [w32_id (by omega) (by omega), I.ls]; omega⟩
  have rd4 : gK g (-4) = 20 ∧ 0 ≤ w32 (i + (4 : Int)) ∧ w32 (i + (4 : Int)) < gL g (-4) := ⟨I.ks, by rw [w32_id (by omega) (by omega)]; omega, by rw [w32_id (by omega) (by omega), I.ls]; omega⟩
  rw [B266_304, ga (rd1), ga (rd2), ga (rd3), ga (by decide), ga (rd4), ga k11]
  refine C94 g h I.c (d + 36) _ (fun h2 c2 e2 => ?_)
  have m2 := I.m.kept e2
  have e4 := e2 (-4) (by decide)
  rw [o1, List.cons_append, List.nil_append, B266_338, ga (rd1), ga (rd2), ga (rd3), ga (by decide), ga (rd4), ga k12, e4]
  refine (C168 I.c.rg) g h2 m2 I.c.cok (d + 37) _ (fun h3 m3 e3 => ?_)
  rw [o1, List.cons_append, List.nil_append, B266_372, if_pos rfl]
  exact nx _ h3 (I.go c2 e2 m3 e3)
theorem K5 {g : KG} {h : KH} {W : Wd} {Ln : Int} (I : LwI g h W Ln) {i : Int} (i0 : 0 ≤ i) (i1 : i + 6 ≤ Ln) {d : Nat} {Q : Option KV → KG → KH → Prop} (nx : ∀ (W2 : Wd) (h2 : KH), LwI g h2 W2 Ln → Rn (d + 40) 266 1650 [xR (-4), xR 0, xR 138, xI i] [] g h2 Q) : Rn (d + 40) 266 377 [xR (-4), xR 0, xR 138, xI i] [] g h Q := by
  have lm := I.lm
  have k11 := I.c.k11
  have k12 := I.m.1.k0
  have rd1 : gK g (-4) = 20 ∧ 0 ≤ w32 (i + (1 : Int)) ∧ w32 (i + (1 : Int)) < gL g (-4) := ⟨I.ks, by rw [w32_id (by omega) (by omega)]; omega, by rw [w32_id (by omega) (by omega), I.ls]; omega⟩
  have rd2 : gK g (-4) = 20 ∧ 0 ≤ w32 (i + (2 : Int)) ∧ w32 (i + (2 : Int)) < gL g (-4) := ⟨I.ks, by rw [w32_id (by omega) (by omega)]; omega, by rw [w32_id (by omega) (by omega), I.ls]; omega⟩
  rw [B266_377, ga (rd1), ga (rd2), ga k11]
  refine C95 g h I.c (d + 36) _ (fun h2 c2 e2 => ?_)
  have m2 := I.m.kept e2
  have e4 := e2 (-4) (by decide)
  rw [o1, List.cons_append, List.nil_append, B266_391, ga (rd1), ga (rd2), ga k12, e4]
  refine (C169 I.c.rg) g h2 m2 I.c.cok (d + 37) _ (fun h3 m3 e3 => ?_)
  rw [o1, List.cons_append, List.nil_append, B266_405, if_pos ((c64eq _ _).mpr rfl)]
  exact nx _ h3 (I.go c2 e2 m3 e3)
theorem K6 {g : KG} {h : KH} {W : Wd} {Ln : Int} (I : LwI g h W Ln) {i : Int} (i0 : 0 ≤ i) (i1 : i + 6 ≤ Ln) {d : Nat} {Q : Option KV → KG → KH → Prop} (nx : ∀ (W2 : Wd) (h2 : KH), LwI g h2 W2 Ln → Rn (d + 40) 266 1650 [xR (-4), xR 0, xR 138, xI i] [] g h2 Q) : Rn (d + 40) 266 411 [xR (-4), xR 0, xR 138, xI i] [] g h Q := by
  have lm := I.lm
  have k11 := I.c.k11
  have k12 := I.m.1.k0
  have rd1 : gK g (-4) = 20 ∧ 0 ≤ w32 (i + (1 : Int)) ∧ w32 (i + (1 : Int)) < gL g (-4) := ⟨I.ks, by rw [w32_id (by omega) (by omega)]; omega, by rw [w32_id (by omega) (by omega), I.ls]; omega⟩
  have rd2 : gK g (-4) = 20 ∧ 0 ≤ w32 (i + (2 : Int)) ∧ w32 (i + (2 : Int)) < gL g (-4) := ⟨I.ks, by rw [w32_id (by omega) (by omega)]; omega, by rw [w32_id (by omega) (by omega), I.ls]; omega⟩
  have rd3 : gK g (-4) = 20 ∧ 0 ≤ w32 (i + (3 : Int)) ∧ w32 (i + (3 : Int)) < gL g (-4) := ⟨I.ks, by rw [w32_id (by omega) (by omega)]; omega, by rw [w32_id (by omega) (by omega), I.ls]; omega⟩
  have rd4 : gK g (-4) = 20 ∧ 0 ≤ w32 (i + (4 : Int)) ∧ w32 (i + (4 : Int)) < gL g (-4) := ⟨I.ks, by rw [w32_id (by omega) (by omega)]; omega, by rw [w32_id (by omega) (by omega), I.ls]; omega⟩
  have rd5 : gK g (-4) = 20 ∧ 0 ≤ w32 (i + (5 : Int)) ∧ w32 (i + (5 : Int)) < gL g (-4) := ⟨I.ks, by rw [w32_id (by omega) (by omega)]; omega, by rw [w32_id (by omega) (by omega), I.ls]; omega⟩
  rw [B266_411, ga (rd1), ga (rd2), ga (rd3), ga (rd4), ga (rd5), ga k11]
  refine (C96 (I.ar _).2 (I.ar _).2) g h I.c (d + 37) _ (fun h2 c2 e2 => ?_)
  have m2 := I.m.kept e2
  have e4 := e2 (-4) (by decide)
  rw [o1, List.cons_append, List.nil_append, B266_440, ga (rd1), ga (rd2), ga (rd3), ga (rd4), ga (rd5), ga k12, e4]
  refine (C170 I.c.rg (I.ar _).2 (I.ar _).2) g h2 m2 I.c.cok (d + 38) _ (fun h3 m3 e3 => ?_)
  rw [o1, List.cons_append, List.nil_append, B266_469, if_pos rfl]
  exact nx _ h3 (I.go c2 e2 m3 e3)
theorem K7 {g : KG} {h : KH} {W : Wd} {Ln : Int} (I : LwI g h W Ln) {i : Int} (i0 : 0 ≤ i) (i1 : i + 6 ≤ Ln) {d : Nat} {Q : Option KV → KG → KH → Prop} (nx : ∀ (W2 : Wd) (h2 : KH), LwI g h2 W2 Ln → Rn (d + 40) 266 1650 [xR (-4), xR 0, xR 138, xI i] [] g h2 Q) : Rn (d + 40) 266 474 [xR (-4), xR 0, xR 138, xI i] [] g h Q := by
  have lm := I.lm
  have k11 := I.c.k11
  have k12 := I.m.1.k0
  have rd1 : gK g (-4) = 20 ∧ 0 ≤ w32 (i + (1 : Int)) ∧ w32 (i + (1 : Int)) < gL g (-4) := ⟨I.ks, by rw [w32_id (by omega) (by omega)]; omega, by rw [w32_id (by omega) (by omega), I.ls]; omega⟩
  have rd2 : gK g (-4) = 20 ∧ 0 ≤ w32 (i + (2 : Int)) ∧ w32 (i + (2 : Int)) < gL g (-4) := ⟨I.ks, by rw [w32_id (by omega) (by omega)]; omega, by rw [w32_id (by omega) (by omega), I.ls]; omega⟩
  have rd3 : gK g (-4) = 20 ∧ 0 ≤ w32 (i + (3 : Int)) ∧ w32 (i + (3 : Int)) < gL g (-4) := ⟨I.ks, by rw [w32_id (by omega) (by omega)]; omega, by rw [w32_id (by omega) (by omega), I.ls]; omega⟩
  have rd4 : gK g (-4) = 20 ∧ 0 ≤ w32 (i + (4 : Int)) ∧ w32 (i + (4 : Int)) < gL g (-4) := ⟨I.ks, by rw [w32_id (by omega) (by omega)]; omega, by rw [w32_id (by omega) (by omega), I.ls]; omega⟩
  have rd5 : gK g (-4) = 20 ∧ 0 ≤ w32 (i + (5 : Int)) ∧ w32 (i + (5 : Int)) < gL g (-4) := ⟨I.ks, by rw [w32_id (by omega) (by omega)]; omega, by rw [w32_id (by omega) (by omega), I.ls]; omega⟩
  rw [B266_474, ga (rd1), ga (rd2), ga (rd3), ga (rd4), ga (rd5), ga k11]
  refine C97 g h I.c (d + 38) _ (fun h2 c2 e2 => ?_)
  have m2 := I.m.kept e2
  have e4 := e2 (-4) (by decide)
  rw [o1, List.cons_append, List.nil_append, B266_503, ga (rd1), ga (rd2), ga (rd3), ga (rd4), ga (rd5), ga k12, e4]
  refine (C171 I.c.rg) g h2 m2 I.c.cok (d + 38) _ (fun h3 m3 e3 => ?_)
  rw [o1, List.cons_append, List.nil_append, B266_532, if_pos rfl]
  exact nx _ h3 (I.go c2 e2 m3 e3)
theorem K8 {g : KG} {h : KH} {W : Wd} {Ln : Int} (I : LwI g h W Ln) {i : Int} (i0 : 0 ≤ i) (i1 : i + 6 ≤ Ln) {d : Nat} {Q : Option KV → KG → KH → Prop} (nx : ∀ (W2 : Wd) (h2 : KH), LwI g h2 W2 Ln → Rn (d + 40) 266 1650 [xR (-4), xR 0, xR 138, xI i] [] g h2 Q) : Rn (d + 40) 266 537 [xR (-4), xR 0, xR 138, xI i] [] g h Q := by
  have lm := I.lm
  have k11 := I.c.k11
  have k12 := I.m.1.k0
  have rd1 : gK g (-4) = 20 ∧ 0 ≤ w32 (i + (1 : Int)) ∧ w32 (i + (1 : Int)) < gL g (-4) := ⟨I.ks, by rw [w32_id (by omega) (by omega)]; omega, by rw [w32_id (by omega) (by omega), I.ls]; omega⟩
  rw [B266_537, ga (rd1), ga k11]
  refine C98 g h I.c (d + 32) _ (fun h2 c2 e2 => ?_)
  have m2 := I.m.kept e2
  have e4 := e2 (-4) (by decide)
  rw [o1, List.cons_append, List.nil_append, B266_546, ga (rd1), ga k12, e4]
  refine (C192 I.c.rg I.c.tb) g h2 m2 I.c.cok (d + 33) _ (fun h3 m3 e3 => ?_)
  rw [o1, List.cons_append, List.nil_append, B266_555, if_pos rfl]
  exact nx _ h3 (I.go c2 e2 m3 e3)
theorem K9 {g : KG} {h : KH} {W : Wd} {Ln : Int} (I : LwI g h W Ln) {i : Int} (i0 : 0 ≤ i) (i1 : i + 6 ≤ Ln) {d : Nat} {Q : Option KV → KG → KH → Prop} (nx : ∀ (W2 : Wd) (h2 : KH), LwI g h2 W2 Ln → Rn (d + 40) 266 1650 [xR (-4), xR 0, xR 138, xI i] [] g h2 Q) : Rn (d + 40) 266 560 [xR (-4), xR 0, xR 138, xI i] [] g h Q := by
  have lm := I.lm
  have k11 := I.c.k11
  have k12 := I.m.1.k0
  have rd1 : gK g (-4) = 20 ∧ 0 ≤ w32 (i + (1 : Int)) ∧ w32 (i + (1 : Int)) < gL g (-4) := ⟨I.ks, by rw [w32_id (by omega) (by omega)]; omega, by rw [w32_id (by omega) (by omega), I.ls]; omega⟩
  rw [B266_560, ga (rd1), ga k11]
  refine C99 g h I.c (d + 4) _ (fun h2 c2 e2 => ?_)
  have m2 := I.m.kept e2
  have e4 := e2 (-4) (by decide)
  rw [o1, List.cons_append, List.nil_append, B266_569, ga (rd1), ga k12, e4]
  refine (C198 I.c.rg I.c.tb) g h2 m2 I.c.cok (d + 32) _ (fun h3 m3 e3 => ?_)
  rw [o1, List.cons_append, List.nil_append, B266_578, if_pos rfl]
  exact nx _ h3 (I.go c2 e2 m3 e3)
theorem K10 {g : KG} {h : KH} {W : Wd} {Ln : Int} (I : LwI g h W Ln) {i : Int} (i0 : 0 ≤ i) (i1 : i + 6 ≤ Ln) {d : Nat} {Q : Option KV → KG → KH → Prop} (nx : ∀ (W2 : Wd) (h2 : KH), LwI g h2 W2 Ln → Rn (d + 40) 266 1650 [xR (-4), xR 0, xR 138, xI i] [] g h2 Q) : Rn (d + 40) 266 583 [xR (-4), xR 0, xR 138, xI i] [] g h Q := by
  have lm := I.lm
  have k11 := I.c.k11
  have k12 := I.m.1.k0
  have rd1 : gK g (-4) = 20 ∧ 0 ≤ w32 (i + (1 : Int)) ∧ w32 (i + (1 : Int)) < gL g (-4) := ⟨I.ks, by rw [w32_id (by omega) (by omega)]; omega, by rw [w32_id (by omega) (by omega), I.ls]; omega⟩
  rw [B266_583, ga (rd1), ga k11]
  refine C100 g h I.c (d + 38) _ (fun h2 c2 e2 => ?_)
  have m2 := I.m.kept e2
  have e4 := e2 (-4) (by decide)
  rw [o1, List.cons_append, List.nil_append, B266_592, ga (rd1), ga k12, e4]
  refine C183 g h2 m2 I.c.cok (d + 39) _ (fun h3 m3 e3 => ?_)
  rw [o1, List.cons_append, List.nil_append, B266_601, if_pos rfl]
  exact nx _ h3 (I.go c2 e2 m3 e3)
theorem K11 {g : KG} {h : KH} {W : Wd} {Ln : Int} (I : LwI g h W Ln) {i : Int} (i0 : 0 ≤ i) (i1 : i + 6 ≤ Ln) {d : Nat} {Q : Option KV → KG → KH → Prop} (nx : ∀ (W2 : Wd) (h2 : KH), LwI g h2 W2 Ln → Rn (d + 40) 266 1650 [xR (-4), xR 0, xR 138, xI i] [] g h2 Q) : Rn (d + 40) 266 606 [xR (-4), xR 0, xR 138, xI i] [] g h Q := by
  have lm := I.lm
  have k11 := I.c.k11
  have k12 := I.m.1.k0
  have rd1 : gK g (-4) = 20 ∧ 0 ≤ w32 (i + (1 : Int)) ∧ w32 (i + (1 : Int)) < gL g (-4) := ⟨I.ks, by rw [w32_id (by omega) (by omega)]; omega, by rw [w32_id (by omega) (by omega), I.ls]; omega⟩
  rw [B266_606, ga (rd1), ga k11]
  refine C101 g h I.c (d + 38) _ (fun h2 c2 e2 => ?_)
  have m2 := I.m.kept e2
  have e4 := e2 (-4) (by decide)
  rw [o1, List.cons_append, List.nil_append, B266_615, ga (rd1), ga k12, e4]
  refine C206 g h2 m2 I.c.cok (d + 38) _ (fun h3 m3 e3 => ?_)
  rw [o1, List.cons_append, List.nil_append, B266_624, if_pos rfl]
  exact nx _ h3 (I.go c2 e2 m3 e3)
theorem K12 {g : KG} {h : KH} {W : Wd} {Ln : Int} (I : LwI g h W Ln) {i : Int} (i0 : 0 ≤ i) (i1 : i + 6 ≤ Ln) {d : Nat} {Q : Option KV → KG → KH → Prop} (nx : ∀ (W2 : Wd) (h2 : KH), LwI g h2 W2 Ln → Rn (d + 40) 266 1650 [xR (-4), xR 0, xR 138, xI i] [] g h2 Q) : Rn (d + 40) 266 629 [xR (-4), xR 0, xR 138, xI i] [] g h Q := by
  have lm := I.lm
  have k11 := I.c.k11
  have k12 := I.m.1.k0
  have rd1 : gK g (-4) = 20 ∧ 0 ≤ w32 (i + (1 : Int)) ∧ w32 (i + (1 : Int)) < gL g (-4) := ⟨I.ks, by rw [w32_id (by omega) (by omega)]; omega, by rw [w32_id (by omega) (by omega), I.ls]; omega⟩
  have rd2 : gK g (-4) = 20 ∧ 0 ≤ w32 (i + (2 : Int)) ∧ w32 (i + (2 : Int)) < gL g (-4) := ⟨I.ks, by rw [w32_id (by omega) (by omega)]; omega, by rw [w32_id (by omega) (by omega), I.ls]; omega⟩
  rw [B266_629, ga (rd1), ga (rd2), ga k11]
  refine C102 g h I.c (d + 37) _ (fun h2 c2 e2 => ?_)
  have m2 := I.m.kept e2
  have e4 := e2 (-4) (by decide)
  rw [o1, List.cons_append, List.nil_append, B266_643, ga (rd1), ga (rd2), ga k12, e4]
  refine C207 g h2 m2 I.c.cok (d + 37) _ (fun h3 m3 e3 => ?_)
  rw [o1, List.cons_append, List.nil_append, B266_657, if_pos rfl]
  exact nx _ h3 (I.go c2 e2 m3 e3)
theorem K13 {g : KG} {h : KH} {W : Wd} {Ln : Int} (I : LwI g h W Ln) {i : Int} (i0 : 0 ≤ i) (i1 : i + 6 ≤ Ln) {d : Nat} {Q : Option KV → KG → KH → Prop} (nx : ∀ (W2 : Wd) (h2 : KH), LwI g h2 W2 Ln → Rn (d + 40) 266 1650 [xR (-4), xR 0, xR 138, xI i] [] g h2 Q) : Rn (d + 40) 266 662 [xR (-4), xR 0, xR 138, xI i] [] g h Q := by
  have lm := I.lm
  have k11 := I.c.k11
  have k12 := I.m.1.k0
  have rd1 : gK g (-4) = 20 ∧ 0 ≤ w32 (i + (1 : Int)) ∧ w32 (i + (1 : Int)) < gL g (-4) := ⟨I.ks, by rw [w32_id (by omega) (by omega)]; omega, by rw [w32_id (by omega) (by omega), I.ls]; omega⟩
  have rd2 : gK g (-4) = 20 ∧ 0 ≤ w32 (i + (2 : Int)) ∧ w32 (i + (2 : Int)) < gL g (-4) := ⟨I.ks, by rw [w32_id (by omega) (by omega)]; omega, by rw [w32_id (by omega) (by omega), I.ls]; omega⟩
  have rd3 : gK g (-4) = 20 ∧ 0 ≤ w32 (i + (3 : Int)) ∧ w32 (i + (3 : Int)) < gL g (-4) := ⟨I.ks, by rw [w32_id (by omega) (by omega)]; omega, by rw [w32_id (by omega) (by omega), I.ls]; omega⟩
  have rd4 : gK g (-4) = 20 ∧ 0 ≤ w32 (i + (4 : Int)) ∧ w32 (i + (4 : Int)) < gL g (-4) := ⟨I.ks, by rw [w32_id (by omega) (by omega)]; omega, by rw [w32_id (by omega) (by omega), I.ls]; omega⟩
  by_cases z : h (-4) (w32 (i + (2 : Int))) = 0
  · rw [B266_662, ga (rd1), ga (rd2), if_pos z, B266_681, ga (rd3), ga (rd4), ga k11]
    refine C103 g h I.c (d + 36) _ (fun h2 c2 e2 => ?_)
    have m2 := I.m.kept e2
    have e4 := e2 (-4) (by decide)
    rw [o1, List.cons_append, List.nil_append, B266_694, ga (rd1), ga (rd2), e4, if_pos z, B266_713, ga (rd3), ga (rd4), ga k12, e4]
    refine C208 g h2 m2 I.c.cok (d + 36) _ (fun h3 m3 e3 => ?_)
    rw [o1, List.cons_append, List.nil_append, B266_726, if_pos rfl]
    exact nx _ h3 (I.go c2 e2 m3 e3)
  · rw [B266_662, ga (rd1), ga (rd2), if_neg z, B266_681, ga (rd3), ga (rd4), ga k11]
    refine C103 g h I.c (d + 36) _ (fun h2 c2 e2 => ?_)
    have m2 := I.m.kept e2
    have e4 := e2 (-4) (by decide)
    rw [o1, List.cons_append, List.nil_append, B266_694, ga (rd1), ga (rd2), e4, if_neg z, B266_713, ga (rd3), ga (rd4), ga k12, e4]
    refine C208 g h2 m2 I.c.cok (d + 36) _ (fun h3 m3 e3 => ?_)
    rw [o1, List.cons_append, List.nil_append, B266_726, if_pos rfl]
    exact nx _ h3 (I.go c2 e2 m3 e3)
theorem K14 {g : KG} {h : KH} {W : Wd} {Ln : Int} (I : LwI g h W Ln) {i : Int} (i0 : 0 ≤ i) (i1 : i + 6 ≤ Ln) {d : Nat} {Q : Option KV → KG → KH → Prop} (nx : ∀ (W2 : Wd) (h2 : KH), LwI g h2 W2 Ln → Rn (d + 40) 266 1650 [xR (-4), xR 0, xR 138, xI i] [] g h2 Q) : Rn (d + 40) 266 731 [xR (-4), xR 0, xR 138, xI i] [] g h Q := by
  have lm := I.lm
  have k11 := I.c.k11
  have k12 := I.m.1.k0
  have rd1 : gK g (-4) = 20 ∧ 0 ≤ w32 (i + (1 : Int)) ∧ w32 (i + (1 : Int)) < gL g (-4) := ⟨I.ks, by rw [w32_id (by omega) (by omega)]; omega, by rw [w32_id (by omega) (by omega), I.ls]; omega⟩
  rw [B266_731, ga (rd1), ga k11]
  refine C104 g h I.c (d + 36) _ (fun h2 c2 e2 => ?_)
  have m2 := I.m.kept e2
  have e4 := e2 (-4) (by decide)
  rw [o1, List.cons_append, List.nil_append, B266_740, ga (rd1), ga k12, e4]
  refine (C209 I.c.rg) g h2 m2 I.c.cok (d + 37) _ (fun h3 m3 e3 => ?_)
  rw [o1, List.cons_append, List.nil_append, B266_749, if_pos rfl]
  exact nx _ h3 (I.go c2 e2 m3 e3)
theorem K15 {g : KG} {h : KH} {W : Wd} {Ln : Int} (I : LwI g h W Ln) {i : Int} (i0 : 0 ≤ i) (i1 : i + 6 ≤ Ln) {d : Nat} {Q : Option KV → KG → KH → Prop} (nx : ∀ (W2 : Wd) (h2 : KH), LwI g h2 W2 Ln → Rn (d + 40) 266 1650 [xR (-4), xR 0, xR 138, xI i] [] g h2 Q) : Rn (d + 40) 266 754 [xR (-4), xR 0, xR 138, xI i] [] g h Q := by
  have lm := I.lm
  have k11 := I.c.k11
  have k12 := I.m.1.k0
  have rd1 : gK g (-4) = 20 ∧ 0 ≤ w32 (i + (1 : Int)) ∧ w32 (i + (1 : Int)) < gL g (-4) := ⟨I.ks, by rw [w32_id (by omega) (by omega)]; omega, by rw [w32_id (by omega) (by omega), I.ls]; omega⟩
  have rd2 : gK g (-4) = 20 ∧ 0 ≤ w32 (i + (2 : Int)) ∧ w32 (i + (2 : Int)) < gL g (-4) := ⟨I.ks, by rw [w32_id (by omega) (by omega)]; omega, by rw [w32_id (by omega) (by omega), I.ls]; omega⟩
  rw [B266_754, ga (rd1), ga (rd2), ga k11]
  refine C105 g h I.c (d + 37) _ (fun h2 c2 e2 => ?_)
  have m2 := I.m.kept e2
  have e4 := e2 (-4) (by decide)
  rw [o1, List.cons_append, List.nil_append, B266_768, ga (rd1), ga (rd2), ga k12, e4]
  refine C210 g h2 m2 I.c.cok (d + 37) _ (fun h3 m3 e3 => ?_)
  rw [o1, List.cons_append, List.nil_append, B266_782, if_pos rfl]
  exact nx _ h3 (I.go c2 e2 m3 e3)
theorem K16 {g : KG} {h : KH} {W : Wd} {Ln : Int} (I : LwI g h W Ln) {i : Int} (i0 : 0 ≤ i) (i1 : i + 6 ≤ Ln) {d : Nat} {Q : Option KV → KG → KH → Prop} (nx : ∀ (W2 : Wd) (h2 : KH), LwI g h2 W2 Ln → Rn (d + 40) 266 1650 [xR (-4), xR 0, xR 138, xI i] [] g h2 Q) : Rn (d + 40) 266 787 [xR (-4), xR 0, xR 138, xI i] [] g h Q := by
  have lm := I.lm
  have k11 := I.c.k11
  have k12 := I.m.1.k0
  have rd1 : gK g (-4) = 20 ∧ 0 ≤ w32 (i + (1 : Int)) ∧ w32 (i + (1 : Int)) < gL g (-4) := ⟨I.ks, by rw [w32_id (by omega) (by omega)]; omega, by rw [w32_id (by omega) (by omega), I.ls]; omega⟩
  have rd2 : gK g (-4) = 20 ∧ 0 ≤ w32 (i + (2 : Int)) ∧ w32 (i + (2 : Int)) < gL g (-4) := ⟨I.ks, by rw [w32_id (by omega) (by omega)]; omega, by rw [w32_id (by omega) (by omega), I.ls]; omega⟩
  have rd3 : gK g (-4) = 20 ∧ 0 ≤ w32 (i + (3 : Int)) ∧ w32 (i + (3 : Int)) < gL g (-4) := ⟨I.ks, by rw [w32_id (by omega) (by omega)]; omega, by rw [w32_id (by omega) (by omega), I.ls]; omega⟩
  rw [B266_787, ga (rd1), ga (rd2), ga (rd3), ga k11]
  refine C106 g h I.c (d + 36) _ (fun h2 c2 e2 => ?_)
  have m2 := I.m.kept e2
  have e4 := e2 (-4) (by decide)
  rw [o1, List.cons_append, List.nil_append, B266_806, ga (rd1), ga (rd2), ga (rd3), ga k12, e4]
  refine C211 g h2 m2 I.c.cok (d + 37) _ (fun h3 m3 e3 => ?_)
  rw [o1, List.cons_append, List.nil_append, B266_825, if_pos rfl]
  exact nx _ h3 (I.go c2 e2 m3 e3)
theorem K17 {g : KG} {h : KH} {W : Wd} {Ln : Int} (I : LwI g h W Ln) {i : Int} (i0 : 0 ≤ i) (i1 : i + 6 ≤ Ln) {d : Nat} {Q : Option KV → KG → KH → Prop} (nx : ∀ (W2 : Wd) (h2 : KH), LwI g h2 W2 Ln → Rn (d + 40) 266 1650 [xR (-4), xR 0, xR 138, xI i] [] g h2 Q) : Rn (d + 40) 266 830 [xR (-4), xR 0, xR 138, xI i] [] g h Q := by
  have lm := I.lm
  have k11 := I.c.k11
  have k12 := I.m.1.k0
  have rd1 : gK g (-4) = 20 ∧ 0 ≤ w32 (i + (1 : Int)) ∧ w32 (i + (1 : Int)) < gL g (-4) := ⟨I.ks, by rw [w32_id (by omega) (by omega)]; omega, by rw [w32_id (by omega) (by omega), I.ls]; omega⟩
  have rd2 : gK g (-4) = 20 ∧ 0 ≤ w32 (i + (2 : Int)) ∧ w32 (i + (2 : Int)) < gL g (-4) := ⟨I.ks, by rw [w32_id (by omega) (by omega)]; omega, by rw [w32_id (by omega) (by omega), I.ls]; omega⟩
  rw [B266_830, ga (rd1), ga (rd2), ga k11]
  refine C107 g h I.c (d + 37) _ (fun h2 c2 e2 => ?_)
  have m2 := I.m.kept e2
  have e4 := e2 (-4) (by decide)
  rw [o1, List.cons_append, List.nil_append, B266_844, ga (rd1), ga (rd2), ga k12, e4]
  refine C212 g h2 m2 I.c.cok (d + 38) _ (fun h3 m3 e3 => ?_)
  rw [o1, List.cons_append, List.nil_append, B266_858, if_pos rfl]
  exact nx _ h3 (I.go c2 e2 m3 e3)
theorem K18 {g : KG} {h : KH} {W : Wd} {Ln : Int} (I : LwI g h W Ln) {i : Int} (i0 : 0 ≤ i) (i1 : i + 6 ≤ Ln) {d : Nat} {Q : Option KV → KG → KH → Prop} (nx : ∀ (W2 : Wd) (h2 : KH), LwI g h2 W2 Ln → Rn (d + 40) 266 1650 [xR (-4), xR 0, xR 138, xI i] [] g h2 Q) : Rn (d + 40) 266 863 [xR (-4), xR 0, xR 138, xI i] [] g h Q := by
  have lm := I.lm
  have k11 := I.c.k11
  have k12 := I.m.1.k0
  have rd1 : gK g (-4) = 20 ∧ 0 ≤ w32 (i + (1 : Int)) ∧ w32 (i + (1 : Int)) < gL g (-4) := ⟨I.ks, by rw [w32_id (by omega) (by omega)]; omega, by rw [w32_id (by omega) (by omega), I.ls]; omega⟩
  have rd2 : gK g (-4) = 20 ∧ 0 ≤ w32 (i + (2 : Int)) ∧ w32 (i + (2 : Int)) < gL g (-4) := ⟨I.ks, by rw [w32_id (by omega) (by omega)]; omega, by rw [w32_id (by omega) (by omega), I.ls]; omega⟩
  by_cases z : h (-4) (w32 (i + (2 : Int))) = 0
  · rw [B266_863, ga (rd1), ga (rd2), if_pos z, B266_882, ga k11]
    refine C108 g h I.c (d + 36) _ (fun h2 c2 e2 => ?_)
    have m2 := I.m.kept e2
    have e4 := e2 (-4) (by decide)
    rw [o1, List.cons_append, List.nil_append, B266_885, ga (rd1), ga (rd2), e4, if_pos z, B266_904, ga k12]
    refine C217 g h2 m2 I.c.cok (d + 35) _ (fun h3 m3 e3 => ?_)
    rw [o1, List.cons_append, List.nil_append, B266_907, if_pos rfl]
    exact nx _ h3 (I.go c2 e2 m3 e3)
  · rw [B266_863, ga (rd1), ga (rd2), if_neg z, B266_882, ga k11]
    refine C108 g h I.c (d + 36) _ (fun h2 c2 e2 => ?_)
    have m2 := I.m.kept e2
    have e4 := e2 (-4) (by decide)
    rw [o1, List.cons_append, List.nil_append, B266_885, ga (rd1), ga (rd2), e4, if_neg z, B266_904, ga k12]
    refine C217 g h2 m2 I.c.cok (d + 35) _ (fun h3 m3 e3 => ?_)
    rw [o1, List.cons_append, List.nil_append, B266_907, if_pos rfl]
    exact nx _ h3 (I.go c2 e2 m3 e3)
theorem K19 {g : KG} {h : KH} {W : Wd} {Ln : Int} (I : LwI g h W Ln) {i : Int} (i0 : 0 ≤ i) (i1 : i + 6 ≤ Ln) {d : Nat} {Q : Option KV → KG → KH → Prop} (nx : ∀ (W2 : Wd) (h2 : KH), LwI g h2 W2 Ln → Rn (d + 40) 266 1650 [xR (-4), xR 0, xR 138, xI i] [] g h2 Q) : Rn (d + 40) 266 912 [xR (-4), xR 0, xR 138, xI i] [] g h Q := by
  have lm := I.lm
  have k11 := I.c.k11
  have k12 := I.m.1.k0
  have rd1 : gK g (-4) = 20 ∧ 0 ≤ w32 (i + (1 : Int)) ∧ w32 (i + (1 : Int)) < gL g (-4) := ⟨I.ks, by rw [w32_id (by omega) (by omega)]; omega, by rw [w32_id (by omega) (by omega), I.ls]; omega⟩
  have rd2 : gK g (-4) = 20 ∧ 0 ≤ w32 (i + (2 : Int)) ∧ w32 (i + (2 : Int)) < gL g (-4) := ⟨I.ks, by rw [w32_id (by omega) (by omega)]; omega, by rw [w32_id (by omega) (by omega), I.ls]; omega⟩
  rw [B266_912, ga (rd1), ga (rd2), ga k11]
  refine C109 g h I.c (d + 35) _ (fun h2 c2 e2 => ?_)
  have m2 := I.m.kept e2
  have e4 := e2 (-4) (by decide)
  rw [o1, List.cons_append, List.nil_append, B266_926, ga (rd1), ga (rd2), ga k12, e4]
  refine C220 g h2 m2 I.c.cok (d + 34) _ (fun h3 m3 e3 => ?_)
  rw [o1, List.cons_append, List.nil_append, B266_940, if_pos rfl]
  exact nx _ h3 (I.go c2 e2 m3 e3)
theorem K20 {g : KG} {h : KH} {W : Wd} {Ln : Int} (I : LwI g h W Ln) {i : Int} (i0 : 0 ≤ i) (i1 : i + 6 ≤ Ln) {d : Nat} {Q : Option KV → KG → KH → Prop} (nx : ∀ (W2 : Wd) (h2 : KH), LwI g h2 W2 Ln → Rn (d + 40) 266 1650 [xR (-4), xR 0, xR 138, xI i] [] g h2 Q) : Rn (d + 40) 266 945 [xR (-4), xR 0, xR 138, xI i] [] g h Q := by
  have lm := I.lm
  have k11 := I.c.k11
  have k12 := I.m.1.k0
  have rd1 : gK g (-4) = 20 ∧ 0 ≤ w32 (i + (1 : Int)) ∧ w32 (i + (1 : Int)) < gL g (-4) := ⟨I.ks, by rw [w32_id (by omega) (by omega)]; omega, by rw [w32_id (by omega) (by omega), I.ls]; omega⟩
  have rd2 : gK g (-4) = 20 ∧ 0 ≤ w32 (i + (2 : Int)) ∧ w32 (i + (2 : Int)) < gL g (-4) := ⟨I.ks, by rw [w32_id (by omega) (by omega)]; omega, by rw [w32_id (by omega) (by omega), I.ls]; omega⟩
  rw [B266_945, ga (rd1), ga (rd2), ga k11]
  refine C110 g h I.c (d + 35) _ (fun h2 c2 e2 => ?_)
  have m2 := I.m.kept e2
  have e4 := e2 (-4) (by decide)
  rw [o1, List.cons_append, List.nil_append, B266_959, ga (rd1), ga (rd2), ga k12, e4]
  refine C221 g h2 m2 I.c.cok (d + 35) _ (fun h3 m3 e3 => ?_)
  rw [o1, List.cons_append, List.nil_append, B266_973, if_pos rfl]
  exact nx _ h3 (I.go c2 e2 m3 e3)
theorem K21 {g : KG} {h : KH} {W : Wd} {Ln : Int} (I : LwI g h W Ln) {i : Int} (i0 : 0 ≤ i) (i1 : i + 6 ≤ Ln) {d : Nat} {Q : Option KV → KG → KH → Prop} (nx : ∀ (W2 : Wd) (h2 : KH), LwI g h2 W2 Ln → Rn (d + 40) 266 1650 [xR (-4), xR 0, xR 138, xI i] [] g h2 Q) : Rn (d + 40) 266 978 [xR (-4), xR 0, xR 138, xI i] [] g h Q := by
  have lm := I.lm
  have k11 := I.c.k11
  have k12 := I.m.1.k0
  have rd1 : gK g (-4) = 20 ∧ 0 ≤ w32 (i + (1 : Int)) ∧ w32 (i + (1 : Int)) < gL g (-4) := ⟨I.ks, by rw [w32_id (by omega) (by omega)]; omega, by rw [w32_id (by omega) (by omega), I.ls]; omega⟩
  have rd2 : gK g (-4) = 20 ∧ 0 ≤ w32 (i + (2 : Int)) ∧ w32 (i + (2 : Int)) < gL g (-4) := ⟨I.ks, by rw [w32_id (by omega) (by omega)]; omega, by rw [w32_id (by omega) (by omega), I.ls]; omega⟩
  rw [B266_978, ga (rd1), ga (rd2), ga k11]
  refine C111 g h I.c (d + 37) _ (fun h2 c2 e2 => ?_)
  have m2 := I.m.kept e2
  have e4 := e2 (-4) (by decide)
  rw [o1, List.cons_append, List.nil_append, B266_992, ga (rd1), ga (rd2), ga k12, e4]
  refine C224 g h2 m2 I.c.cok (d + 37) _ (fun h3 m3 e3 => ?_)
  rw [o1, List.cons_append, List.nil_append, B266_1006, if_pos rfl]
  exact nx _ h3 (I.go c2 e2 m3 e3)
theorem K22 {g : KG} {h : KH} {W : Wd} {Ln : Int} (I : LwI g h W Ln) {i : Int} (i0 : 0 ≤ i) (i1 : i + 6 ≤ Ln) {d : Nat} {Q : Option KV → KG → KH → Prop} (nx : ∀ (W2 : Wd) (h2 : KH), LwI g h2 W2 Ln → Rn (d + 40) 266 1650 [xR (-4), xR 0, xR 138, xI i] [] g h2 Q) : Rn (d + 40) 266 1011 [xR (-4), xR 0, xR 138, xI i] [] g h Q := by
  have lm := I.lm
  have k11 := I.c.k11
  have k12 := I.m.1.k0
  have rd1 : gK g (-4) = 20 ∧ 0 ≤ w32 (i + (1 : Int)) ∧ w32 (i + (1 : Int)) < gL g (-4) := ⟨I.ks, by rw [w32_id (by omega) (by omega)]; omega, by rw [w32_id (by omega) (by omega), I.ls]; omega⟩
  rw [B266_1011, ga (rd1), ga k11]
  refine C112 g h I.c (d + 34) _ (fun h2 c2 e2 => ?_)
  have m2 := I.m.kept e2
  have e4 := e2 (-4) (by decide)
  rw [o1, List.cons_append, List.nil_append, B266_1020, ga (rd1), ga k12, e4]
  refine C227 g h2 m2 I.c.cok (d + 35) _ (fun h3 m3 e3 => ?_)
  rw [o1, List.cons_append, List.nil_append, B266_1029, if_pos rfl]
  exact nx _ h3 (I.go c2 e2 m3 e3)
theorem K23 {g : KG} {h : KH} {W : Wd} {Ln : Int} (I : LwI g h W Ln) {i : Int} (i0 : 0 ≤ i) (i1 : i + 6 ≤ Ln) {d : Nat} {Q : Option KV → KG → KH → Prop} (nx : ∀ (W2 : Wd) (h2 : KH), LwI g h2 W2 Ln → Rn (d + 40) 266 1650 [xR (-4), xR 0, xR 138, xI i] [] g h2 Q) : Rn (d + 40) 266 1034 [xR (-4), xR 0, xR 138, xI i] [] g h Q := by
  have lm := I.lm
  have k11 := I.c.k11
  have k12 := I.m.1.k0
  have rd1 : gK g (-4) = 20 ∧ 0 ≤ w32 (i + (1 : Int)) ∧ w32 (i + (1 : Int)) < gL g (-4) := ⟨I.ks, by rw [w32_id (by omega) (by omega)]; omega, by rw [w32_id (by omega) (by omega), I.ls]; omega⟩
  rw [B266_1034, ga (rd1), ga k11]
  refine C113 g h I.c (d + 35) _ (fun h2 c2 e2 => ?_)
  have m2 := I.m.kept e2
  have e4 := e2 (-4) (by decide)
  rw [o1, List.cons_append, List.nil_append, B266_1043, ga (rd1), ga k12, e4]
  refine C228 g h2 m2 I.c.cok (d + 35) _ (fun h3 m3 e3 => ?_)
  rw [o1, List.cons_append, List.nil_append, B266_1052, if_pos rfl]
  exact nx _ h3 (I.go c2 e2 m3 e3)
theorem K24 {g : KG} {h : KH} {W : Wd} {Ln : Int} (I : LwI g h W Ln) {i : Int} (i0 : 0 ≤ i) (i1 : i + 6 ≤ Ln) {d : Nat} {Q : Option KV → KG → KH → Prop} (nx : ∀ (W2 : Wd) (h2 : KH), LwI g h2 W2 Ln → Rn (d + 40) 266 1650 [xR (-4), xR 0, xR 138, xI i] [] g h2 Q) : Rn (d + 40) 266 1057 [xR (-4), xR 0, xR 138, xI i] [] g h Q := by
  have lm := I.lm
  have k11 := I.c.k11
  have k12 := I.m.1.k0
  have rd1 : gK g (-4) = 20 ∧ 0 ≤ w32 (i + (1 : Int)) ∧ w32 (i + (1 : Int)) < gL g (-4) := ⟨I.ks, by rw [w32_id (by omega) (by omega)]; omega, by rw [w32_id (by omega) (by omega), I.ls]; omega⟩
  have rd2 : gK g (-4) = 20 ∧ 0 ≤ w32 (i + (2 : Int)) ∧ w32 (i + (2 : Int)) < gL g (-4) := ⟨I.ks, by rw [w32_id (by omega) (by omega)]; omega, by rw [w32_id (by omega) (by omega), I.ls]; omega⟩
  have rd3 : gK g (-4) = 20 ∧ 0 ≤ w32 (i + (3 : Int)) ∧ w32 (i + (3 : Int)) < gL g (-4) := ⟨I.ks, by rw [w32_id (by omega) (by omega)]; omega, by rw [w32_id (by omega) (by omega), I.ls]; omega⟩
  rw [B266_1057, ga (rd1), ga (rd2), ga (rd3), ga k11]
  refine C114 g h I.c (d + 36) _ (fun h2 c2 e2 => ?_)
  have m2 := I.m.kept e2
  have e4 := e2 (-4) (by decide)
  rw [o1, List.cons_append, List.nil_append, B266_1076, ga (rd1), ga (rd2), ga (rd3), ga k12, e4]
  refine C230 g h2 m2 I.c.cok (d + 36) _ (fun h3 m3 e3 => ?_)
  rw [o1, List.cons_append, List.nil_append, B266_1095, if_pos rfl]
  exact nx _ h3 (I.go c2 e2 m3 e3)
theorem K25 {g : KG} {h : KH} {W : Wd} {Ln : Int} (I : LwI g h W Ln) {i : Int} (i0 : 0 ≤ i) (i1 : i + 6 ≤ Ln) {d : Nat} {Q : Option KV → KG → KH → Prop} (nx : ∀ (W2 : Wd) (h2 : KH), LwI g h2 W2 Ln → Rn (d + 40) 266 1650 [xR (-4), xR 0, xR 138, xI i] [] g h2 Q) : Rn (d + 40) 266 1100 [xR (-4), xR 0, xR 138, xI i] [] g h Q := by
  have lm := I.lm
  have k11 := I.c.k11
  have k12 := I.m.1.k0
  rw [B266_1100, ga k11]
  refine C115 g h I.c (d + 30) _ (fun h2 c2 e2 => ?_)
  have m2 := I.m.kept e2
  have e4 := e2 (-4) (by decide)
  rw [o1, List.cons_append, List.nil_append, B266_1104, ga k12]
  refine C234 g h2 m2 I.c.cok (d + 35) _ (fun h3 m3 e3 => ?_)
  rw [o1, List.cons_append, List.nil_append, B266_1108, if_pos rfl]
  exact nx _ h3 (I.go c2 e2 m3 e3)
theorem K26 {g : KG} {h : KH} {W : Wd} {Ln : Int} (I : LwI g h W Ln) {i : Int} (i0 : 0 ≤ i) (i1 : i + 6 ≤ Ln) {d : Nat} {Q : Option KV → KG → KH → Prop} (nx : ∀ (W2 : Wd) (h2 : KH), LwI g h2 W2 Ln → Rn (d + 40) 266 1650 [xR (-4), xR 0, xR 138, xI i] [] g h2 Q) : Rn (d + 40) 266 1113 [xR (-4), xR 0, xR 138, xI i] [] g h Q := by
  have lm := I.lm
  have k11 := I.c.k11
  have k12 := I.m.1.k0
  have rd1 : gK g (-4) = 20 ∧ 0 ≤ w32 (i + (1 : Int)) ∧ w32 (i + (1 : Int)) < gL g (-4) := ⟨I.ks, by rw [w32_id (by omega) (by omega)]; omega, by rw [w32_id (by omega) (by omega), I.ls]; omega⟩
  rw [B266_1113, ga (rd1), ga k11]
  refine C116 g h I.c (d + 30) _ (fun h2 c2 e2 => ?_)
  have m2 := I.m.kept e2
  have e4 := e2 (-4) (by decide)
  rw [o1, List.cons_append, List.nil_append, B266_1122, ga (rd1), ga k12, e4]
  refine C235 g h2 m2 I.c.cok (d + 35) _ (fun h3 m3 e3 => ?_)
  rw [o1, List.cons_append, List.nil_append, B266_1131, if_pos rfl]
  exact nx _ h3 (I.go c2 e2 m3 e3)
theorem K27 {g : KG} {h : KH} {W : Wd} {Ln : Int} (I : LwI g h W Ln) {i : Int} (i0 : 0 ≤ i) (i1 : i + 6 ≤ Ln) {d : Nat} {Q : Option KV → KG → KH → Prop} (nx : ∀ (W2 : Wd) (h2 : KH), LwI g h2 W2 Ln → Rn (d + 40) 266 1650 [xR (-4), xR 0, xR 138, xI i] [] g h2 Q) : Rn (d + 40) 266 1136 [xR (-4), xR 0, xR 138, xI i] [] g h Q := by
  have lm := I.lm
  have k11 := I.c.k11
  have k12 := I.m.1.k0
  have rd1 : gK g (-4) = 20 ∧ 0 ≤ w32 (i + (1 : Int)) ∧ w32 (i + (1 : Int)) < gL g (-4) := ⟨I.ks, by rw [w32_id (by omega) (by omega)]; omega, by rw [w32_id (by omega) (by omega), I.ls]; omega⟩
  have rd2 : gK g (-4) = 20 ∧ 0 ≤ w32 (i + (2 : Int)) ∧ w32 (i + (2 : Int)) < gL g (-4) := ⟨I.ks, by rw [w32_id (by omega) (by omega)]; omega, by rw [w32_id (by omega) (by omega), I.ls]; omega⟩
  have rd3 : gK g (-4) = 20 ∧ 0 ≤ w32 (i + (3 : Int)) ∧ w32 (i + (3 : Int)) < gL g (-4) := ⟨I.ks, by rw [w32_id (by omega) (by omega)]; omega, by rw [w32_id (by omega) (by omega), I.ls]; omega⟩
  rw [B266_1136, ga (rd1), ga (rd2), ga (rd3), ga k11]
  refine C117 g h I.c (d + 36) _ (fun h2 c2 e2 => ?_)
  have m2 := I.m.kept e2
  have e4 := e2 (-4) (by decide)
  rw [o1, List.cons_append, List.nil_append, B266_1155, ga (rd1), ga (rd2), ga (rd3), ga k12, e4]
  refine C236 g h2 m2 I.c.cok (d + 36) _ (fun h3 m3 e3 => ?_)
  rw [o1, List.cons_append, List.nil_append, B266_1174, if_pos rfl]
  exact nx _ h3 (I.go c2 e2 m3 e3)
theorem K28 {g : KG} {h : KH} {W : Wd} {Ln : Int} (I : LwI g h W Ln) {i : Int} (i0 : 0 ≤ i) (i1 : i + 6 ≤ Ln) {d : Nat} {Q : Option KV → KG → KH → Prop} (nx : ∀ (W2 : Wd) (h2 : KH), LwI g h2 W2 Ln → Rn (d + 40) 266 1650 [xR (-4), xR 0, xR 138, xI i] [] g h2 Q) : Rn (d + 40) 266 1179 [xR (-4), xR 0, xR 138, xI i] [] g h Q := by
  have lm := I.lm
  have k11 := I.c.k11
  have k12 := I.m.1.k0
  have rd1 : gK g (-4) = 20 ∧ 0 ≤ w32 (i + (1 : Int)) ∧ w32 (i + (1 : Int)) < gL g (-4) := ⟨I.ks, by rw [w32_id (by omega) (by omega)]; omega, by rw [w32_id (by omega) (by omega), I.ls]; omega⟩
  have rd2 : gK g (-4) = 20 ∧ 0 ≤ w32 (i + (2 : Int)) ∧ w32 (i + (2 : Int)) < gL g (-4) := ⟨I.ks, by rw [w32_id (by omega) (by omega)]; omega, by rw [w32_id (by omega) (by omega), I.ls]; omega⟩
  have rd3 : gK g (-4) = 20 ∧ 0 ≤ w32 (i + (3 : Int)) ∧ w32 (i + (3 : Int)) < gL g (-4) := ⟨I.ks, by rw [w32_id (by omega) (by omega)]; omega, by rw [w32_id (by omega) (by omega), I.ls]; omega⟩
  rw [B266_1179, ga (rd1), ga (rd2), ga (rd3), ga k11]
  refine (C118 (I.ar _).2) g h I.c (d + 36) _ (fun h2 c2 e2 => ?_)
  have m2 := I.m.kept e2
  have e4 := e2 (-4) (by decide)
  rw [o1, List.cons_append, List.nil_append, B266_1198, ga (rd1), ga (rd2), ga (rd3), ga k12, e4]
  refine (C241 (I.ar _).2) g h2 m2 I.c.cok (d + 36) _ (fun h3 m3 e3 => ?_)
  rw [o1, List.cons_append, List.nil_append, B266_1217, if_pos rfl]
  exact nx _ h3 (I.go c2 e2 m3 e3)
theorem K29 {g : KG} {h : KH} {W : Wd} {Ln : Int} (I : LwI g h W Ln) {i : Int} (i0 : 0 ≤ i) (i1 : i + 6 ≤ Ln) {d : Nat} {Q : Option KV → KG → KH → Prop} (nx : ∀ (W2 : Wd) (h2 : KH), LwI g h2 W2 Ln → Rn (d + 40) 266 1650 [xR (-4), xR 0, xR 138, xI i] [] g h2 Q) : Rn (d + 40) 266 1222 [xR (-4), xR 0, xR 138, xI i] [] g h Q := by
  have lm := I.lm
  have k11 := I.c.k11
  have k12 := I.m.1.k0
  have rd1 : gK g (-4) = 20 ∧ 0 ≤ w32 (i + (1 : Int)) ∧ w32 (i + (1 : Int)) < gL g (-4) := ⟨I.ks, by rw [w32_id (by omega) (by omega)]; omega, by rw [w32_id (by omega) (by omega), I.ls]; omega⟩
  have rd2 : gK g (-4) = 20 ∧ 0 ≤ w32 (i + (2 : Int)) ∧ w32 (i + (2 : Int)) < gL g (-4) := ⟨I.ks, by rw [w32_id (by omega) (by omega)]; omega, by rw [w32_id (by omega) (by omega), I.ls]; omega⟩
  have rd3 : gK g (-4) = 20 ∧ 0 ≤ w32 (i + (3 : Int)) ∧ w32 (i + (3 : Int)) < gL g (-4) := ⟨I.ks, by rw [w32_id (by omega) (by omega)]; omega, by rw [w32_id (by omega) (by omega), I.ls]; omega⟩
  have rd4 : gK g (-4) = 20 ∧ 0 ≤ w32 (i + (4 : Int)) ∧ w32 (i + (4 : Int)) < gL g (-4) := ⟨I.ks, by rw [w32_id (by omega) (by omega)]; omega, by rw [w32_id (by omega) (by omega), I.ls]; omega⟩
  by_cases z : h (-4) (w32 (i + (4 : Int))) = 0
  · rw [B266_1222, ga (rd1), ga (rd2), ga (rd3), ga (rd4), if_pos z, B266_1251, ga k11]
    refine C119 g h I.c (d + 36) _ (fun h2 c2 e2 => ?_)
    have m2 := I.m.kept e2
    have e4 := e2 (-4) (by decide)
    rw [o1, List.cons_append, List.nil_append, B266_1254, ga (rd1), ga (rd2), ga (rd3), ga (rd4), e4, if_pos z, B266_1283, ga k12]
    refine C242 g h2 m2 I.c.cok (d + 36) _ (fun h3 m3 e3 => ?_)
    rw [o1, List.cons_append, List.nil_append, B266_1286, if_pos rfl]
    exact nx _ h3 (I.go c2 e2 m3 e3)
  · rw [B266_1222, ga (rd1), ga (rd2), ga (rd3), ga (rd4), if_neg z, B266_1251, ga k11]
    refine C119 g h I.c (d + 36) _ (fun h2 c2 e2 => ?_)
    have m2 := I.m.kept e2
    have e4 := e2 (-4) (by decide)
    rw [o1, List.cons_append, List.nil_append, B266_1254, ga (rd1), ga (rd2), ga (rd3), ga (rd4), e4, if_neg z, B266_1283, ga k12]
    refine C242 g h2 m2 I.c.cok (d + 36) _ (fun h3 m3 e3 => ?_)
    rw [o1, List.cons_append, List.nil_append, B266_1286, if_pos rfl]
    exact nx _ h3 (I.go c2 e2 m3 e3)
theorem K30 {g : KG} {h : KH} {W : Wd} {Ln : Int} (I : LwI g h W Ln) {i : Int} (i0 : 0 ≤ i) (i1 : i + 6 ≤ Ln) {d : Nat} {Q : Option KV → KG → KH → Prop} (nx : ∀ (W2 : Wd) (h2 : KH), LwI g h2 W2 Ln → Rn (d + 40) 266 1650 [xR (-4), xR 0, xR 138, xI i] [] g h2 Q) : Rn (d + 40) 266 1291 [xR (-4), xR 0, xR 138, xI i] [] g h Q := by
  have lm := I.lm
  have k11 := I.c.k11
  have k12 := I.m.1.k0
  have rd1 : gK g (-4) = 20 ∧ 0 ≤ w32 (i + (1 : Int)) ∧ w32 (i + (1 : Int)) < gL g (-4) := ⟨I.ks, by rw [w32_id (by omega) (by omega)]; omega, by rw [w32_id (by omega) (by omega), I.ls]; omega⟩
  rw [B266_1291, ga (rd1), ga k11]
  refine C120 g h I.c (d + 37) _ (fun h2 c2 e2 => ?_)
  have m2 := I.m.kept e2
  have e4 := e2 (-4) (by decide)
  rw [o1, List.cons_append, List.nil_append, B266_1300, ga (rd1), ga k12, e4]
  refine C243 g h2 m2 I.c.cok (d + 36) _ (fun h3 m3 e3 => ?_)
  rw [o1, List.cons_append, List.nil_append, B266_1309, if_pos rfl]
  exact nx _ h3 (I.go c2 e2 m3 e3)
theorem K31 {g : KG} {h : KH} {W : Wd} {Ln : Int} (I : LwI g h W Ln) {i : Int} (i0 : 0 ≤ i) (i1 : i + 6 ≤ Ln) {d : Nat} {Q : Option KV → KG → KH → Prop} (nx : ∀ (W2 : Wd) (h2 : KH), LwI g h2 W2 Ln → Rn (d + 40) 266 1650 [xR (-4), xR 0, xR 138, xI i] [] g h2 Q) : Rn (d + 40) 266 1314 [xR (-4), xR 0, xR 138, xI i] [] g h Q := by
  have lm := I.lm
  have k11 := I.c.k11
  have k12 := I.m.1.k0
  have rd1 : gK g (-4) = 20 ∧ 0 ≤ w32 (i + (1 : Int)) ∧ w32 (i + (1 : Int)) < gL g (-4) := ⟨I.ks, by rw [w32_id (by omega) (by omega)]; omega, by rw [w32_id (by omega) (by omega), I.ls]; omega⟩
  have rd2 : gK g (-4) = 20 ∧ 0 ≤ w32 (i + (2 : Int)) ∧ w32 (i + (2 : Int)) < gL g (-4) := ⟨I.ks, by rw [w32_id (by omega) (by omega)]; omega, by rw [w32_id (by omega) (by omega), I.ls]; omega⟩
  rw [B266_1314, ga (rd1), ga (rd2), ga k11]
  refine C121 g h I.c (d + 35) _ (fun h2 c2 e2 => ?_)
  have m2 := I.m.kept e2
  have e4 := e2 (-4) (by decide)
  rw [o1, List.cons_append, List.nil_append, B266_1328, ga (rd1), ga (rd2), ga k12, e4]
  refine C244 g h2 m2 I.c.cok (d + 34) _ (fun h3 m3 e3 => ?_)
  rw [o1, List.cons_append, List.nil_append, B266_1342, if_pos rfl]
  exact nx _ h3 (I.go c2 e2 m3 e3)
theorem K32 {g : KG} {h : KH} {W : Wd} {Ln : Int} (I : LwI g h W Ln) {i : Int} (i0 : 0 ≤ i) (i1 : i + 6 ≤ Ln) {d : Nat} {Q : Option KV → KG → KH → Prop} (nx : ∀ (W2 : Wd) (h2 : KH), LwI g h2 W2 Ln → Rn (d + 40) 266 1650 [xR (-4), xR 0, xR 138, xI i] [] g h2 Q) : Rn (d + 40) 266 1347 [xR (-4), xR 0, xR 138, xI i] [] g h Q := by
  have lm := I.lm
  have k11 := I.c.k11
  have k12 := I.m.1.k0
  have rd1 : gK g (-4) = 20 ∧ 0 ≤ w32 (i + (1 : Int)) ∧ w32 (i + (1 : Int)) < gL g (-4) := ⟨I.ks, by rw [w32_id (by omega) (by omega)]; omega, by rw [w32_id (by omega) (by omega), I.ls]; omega⟩
  rw [B266_1347, ga (rd1), ga k11]
  refine C122 g h I.c (d + 33) _ (fun h2 c2 e2 => ?_)
  have m2 := I.m.kept e2
  have e4 := e2 (-4) (by decide)
  rw [o1, List.cons_append, List.nil_append, B266_1356, ga (rd1), ga k12, e4]
  refine C250 g h2 m2 I.c.cok (d + 31) _ (fun h3 m3 e3 => ?_)
  rw [o1, List.cons_append, List.nil_append, B266_1365, if_pos rfl]
  exact nx _ h3 (I.go c2 e2 m3 e3)
theorem K33 {g : KG} {h : KH} {W : Wd} {Ln : Int} (I : LwI g h W Ln) {i : Int} (i0 : 0 ≤ i) (i1 : i + 6 ≤ Ln) {d : Nat} {Q : Option KV → KG → KH → Prop} (nx : ∀ (W2 : Wd) (h2 : KH), LwI g h2 W2 Ln → Rn (d + 40) 266 1650 [xR (-4), xR 0, xR 138, xI i] [] g h2 Q) : Rn (d + 40) 266 1370 [xR (-4), xR 0, xR 138, xI i] [] g h Q := by
  have lm := I.lm
  have k11 := I.c.k11
  have k12 := I.m.1.k0
  have rd1 : gK g (-4) = 20 ∧ 0 ≤ w32 (i + (1 : Int)) ∧ w32 (i + (1 : Int)) < gL g (-4) := ⟨I.ks, by rw [w32_id (by omega) (by omega)]; omega, by rw [w32_id (by omega) (by omega), I.ls]; omega⟩
  have rd2 : gK g (-4) = 20 ∧ 0 ≤ w32 (i + (2 : Int)) ∧ w32 (i + (2 : Int)) < gL g (-4) := ⟨I.ks, by rw [w32_id (by omega) (by omega)]; omega, by rw [w32_id (by omega) (by omega), I.ls]; omega⟩
  rw [B266_1370, ga (rd1), ga (rd2), ga k11]
  refine C123 g h I.c (d + 25) _ (fun h2 c2 e2 => ?_)
  have m2 := I.m.kept e2
  have e4 := e2 (-4) (by decide)
  rw [o1, List.cons_append, List.nil_append, B266_1384, ga (rd1), ga (rd2), ga k12, e4]
  refine (C251 I.c.hmr) g h2 m2 I.c.cok (d + 31) _ (fun h3 m3 e3 => ?_)
  rw [o1, List.cons_append, List.nil_append, B266_1398, if_pos rfl]
  exact nx _ h3 (I.go c2 e2 m3 e3)
theorem K34 {g : KG} {h : KH} {W : Wd} {Ln : Int} (I : LwI g h W Ln) {i : Int} (i0 : 0 ≤ i) (i1 : i + 6 ≤ Ln) {d : Nat} {Q : Option KV → KG → KH → Prop} (nx : ∀ (W2 : Wd) (h2 : KH), LwI g h2 W2 Ln → Rn (d + 40) 266 1650 [xR (-4), xR 0, xR 138, xI i] [] g h2 Q) : Rn (d + 40) 266 1403 [xR (-4), xR 0, xR 138, xI i] [] g h Q := by
  have lm := I.lm
  have k11 := I.c.k11
  have k12 := I.m.1.k0
  have rd1 : gK g (-4) = 20 ∧ 0 ≤ w32 (i + (1 : Int)) ∧ w32 (i + (1 : Int)) < gL g (-4) := ⟨I.ks, by rw [w32_id (by omega) (by omega)]; omega, by rw [w32_id (by omega) (by omega), I.ls]; omega⟩
  rw [B266_1403, ga (rd1), ga k11]
  refine C124 g h I.c (d + 37) _ (fun h2 c2 e2 => ?_)
  have m2 := I.m.kept e2
  have e4 := e2 (-4) (by decide)
  rw [o1, List.cons_append, List.nil_append, B266_1412, ga (rd1), ga k12, e4]
  refine (C252 I.c.hmr) g h2 m2 I.c.cok (d + 38) _ (fun h3 m3 e3 => ?_)
  rw [o1, List.cons_append, List.nil_append, B266_1421, if_pos rfl]
  exact nx _ h3 (I.go c2 e2 m3 e3)
theorem K35 {g : KG} {h : KH} {W : Wd} {Ln : Int} (I : LwI g h W Ln) {i : Int} (i0 : 0 ≤ i) (i1 : i + 6 ≤ Ln) {d : Nat} {Q : Option KV → KG → KH → Prop} (nx : ∀ (W2 : Wd) (h2 : KH), LwI g h2 W2 Ln → Rn (d + 40) 266 1650 [xR (-4), xR 0, xR 138, xI i] [] g h2 Q) : Rn (d + 40) 266 1426 [xR (-4), xR 0, xR 138, xI i] [] g h Q := by
  have lm := I.lm
  have k11 := I.c.k11
  have k12 := I.m.1.k0
  have rd1 : gK g (-4) = 20 ∧ 0 ≤ w32 (i + (1 : Int)) ∧ w32 (i + (1 : Int)) < gL g (-4) := ⟨I.ks, by rw [w32_id (by omega) (by omega)]; omega, by rw [w32_id (by omega) (by omega), I.ls]; omega⟩
  have rd2 : gK g (-4) = 20 ∧ 0 ≤ w32 (i + (2 : Int)) ∧ w32 (i + (2 : Int)) < gL g (-4) := ⟨I.ks, by rw [w32_id (by omega) (by omega)]; omega, by rw [w32_id (by omega) (by omega), I.ls]; omega⟩
  have rd3 : gK g (-4) = 20 ∧ 0 ≤ w32 (i + (3 : Int)) ∧ w32 (i + (3 : Int)) < gL g (-4) := ⟨I.ks, by rw [w32_id (by omega) (by omega)]; omega, by rw [w32_id (by omega) (by omega), I.ls]; omega⟩
  rw [B266_1426, ga (rd1), ga (rd2), ga (rd3), ga k11]
  refine C125 g h I.c (d + 36) _ (fun h2 c2 e2 => ?_)
  have m2 := I.m.kept e2
  have e4 := e2 (-4) (by decide)
  rw [o1, List.cons_append, List.nil_append, B266_1445, ga (rd1), ga (rd2), ga (rd3), ga k12, e4]
  refine C255 g h2 m2 I.c.cok (d + 36) _ (fun h3 m3 e3 => ?_)
  rw [o1, List.cons_append, List.nil_append, B266_1464, if_pos rfl]
  exact nx _ h3 (I.go c2 e2 m3 e3)
theorem K36 {g : KG} {h : KH} {W : Wd} {Ln : Int} (I : LwI g h W Ln) {i : Int} (i0 : 0 ≤ i) (i1 : i + 6 ≤ Ln) {d : Nat} {Q : Option KV → KG → KH → Prop} (nx : ∀ (W2 : Wd) (h2 : KH), LwI g h2 W2 Ln → Rn (d + 40) 266 1650 [xR (-4), xR 0, xR 138, xI i] [] g h2 Q) : Rn (d + 40) 266 1469 [xR (-4), xR 0, xR 138, xI i] [] g h Q := by
  have lm := I.lm
  have k11 := I.c.k11
  have k12 := I.m.1.k0
  have rd1 : gK g (-4) = 20 ∧ 0 ≤ w32 (i + (1 : Int)) ∧ w32 (i + (1 : Int)) < gL g (-4) := ⟨I.ks, by rw [w32_id (by omega) (by omega)]; omega, by rw [w32_id (by omega) (by omega), I.ls]; omega⟩
  have rd2 : gK g (-4) = 20 ∧ 0 ≤ w32 (i + (2 : Int)) ∧ w32 (i + (2 : Int)) < gL g (-4) := ⟨I.ks, by rw [w32_id (by omega) (by omega)]; omega, by rw [w32_id (by omega) (by omega), I.ls]; omega⟩
  rw [B266_1469, ga (rd1), ga (rd2), ga k11]
  refine C126 g h I.c (d + 36) _ (fun h2 c2 e2 => ?_)
  have m2 := I.m.kept e2
  have e4 := e2 (-4) (by decide)
  rw [o1, List.cons_append, List.nil_append, B266_1483, ga (rd1), ga (rd2), ga k12, e4]
  refine C256 g h2 m2 I.c.cok (d + 36) _ (fun h3 m3 e3 => ?_)
  rw [o1, List.cons_append, List.nil_append, B266_1497, if_pos rfl]
  exact nx _ h3 (I.go c2 e2 m3 e3)
theorem K37 {g : KG} {h : KH} {W : Wd} {Ln : Int} (I : LwI g h W Ln) {i : Int} (i0 : 0 ≤ i) (i1 : i + 6 ≤ Ln) {d : Nat} {Q : Option KV → KG → KH → Prop} (nx : ∀ (W2 : Wd) (h2 : KH), LwI g h2 W2 Ln → Rn (d + 40) 266 1650 [xR (-4), xR 0, xR 138, xI i] [] g h2 Q) : Rn (d + 40) 266 1502 [xR (-4), xR 0, xR 138, xI i] [] g h Q := by
  have lm := I.lm
  have k11 := I.c.k11
  have k12 := I.m.1.k0
  have rd1 : gK g (-4) = 20 ∧ 0 ≤ w32 (i + (1 : Int)) ∧ w32 (i + (1 : Int)) < gL g (-4) := ⟨I.ks, by rw [w32_id (by omega) (by omega)]; omega, by rw [w32_id (by omega) (by omega), I.ls]; omega⟩
  have rd2 : gK g (-4) = 20 ∧ 0 ≤ w32 (i + (2 : Int)) ∧ w32 (i + (2 : Int)) < gL g (-4) := ⟨I.ks, by rw [w32_id (by omega) (by omega)]; omega, by rw [w32_id (by omega) (by omega), I.ls]; omega⟩
  rw [B266_1502, ga (rd1), ga (rd2), ga k11]
  refine C127 g h I.c (d + 34) _ (fun h2 c2 e2 => ?_)
  have m2 := I.m.kept e2
  have e4 := e2 (-4) (by decide)
  rw [o1, List.cons_append, List.nil_append, B266_1516, ga (rd1), ga (rd2), ga k12, e4]
  refine C257 g h2 m2 I.c.cok (d + 34) _ (fun h3 m3 e3 => ?_)
  rw [o1, List.cons_append, List.nil_append, B266_1530, if_pos rfl]
  exact nx _ h3 (I.go c2 e2 m3 e3)
theorem K38 {g : KG} {h : KH} {W : Wd} {Ln : Int} (I : LwI g h W Ln) {i : Int} (i0 : 0 ≤ i) (i1 : i + 6 ≤ Ln) {d : Nat} {Q : Option KV → KG → KH → Prop} (nx : ∀ (W2 : Wd) (h2 : KH), LwI g h2 W2 Ln → Rn (d + 40) 266 1650 [xR (-4), xR 0, xR 138, xI i] [] g h2 Q) : Rn (d + 40) 266 1535 [xR (-4), xR 0, xR 138, xI i] [] g h Q := by
  have lm := I.lm
  have k11 := I.c.k11
  have k12 := I.m.1.k0
  rw [B266_1535, ga k11]
  refine C128 g h I.c (d + 38) _ (fun h2 c2 e2 => ?_)
  have m2 := I.m.kept e2
  have e4 := e2 (-4) (by decide)
  rw [o1, List.cons_append, List.nil_append, B266_1539, ga k12]
  refine C258 g h2 m2 I.c.cok (d + 38) _ (fun h3 m3 e3 => ?_)
  rw [o1, List.cons_append, List.nil_append, B266_1543, if_pos rfl]
  exact nx _ h3 (I.go c2 e2 m3 e3)
theorem K39 {g : KG} {h : KH} {W : Wd} {Ln : Int} (I : LwI g h W Ln) {i : Int} (i0 : 0 ≤ i) (i1 : i + 6 ≤ Ln) {d : Nat} {Q : Option KV → KG → KH → Prop} (nx : ∀ (W2 : Wd) (h2 : KH), LwI g h2 W2 Ln → Rn (d + 40) 266 1650 [xR (-4), xR 0, xR 138, xI i] [] g h2 Q) : Rn (d + 40) 266 1548 [xR (-4), xR 0, xR 138, xI i] [] g h Q := by
  have lm := I.lm
  have k11 := I.c.k11
  have k12 := I.m.1.k0
  have rd1 : gK g (-4) = 20 ∧ 0 ≤ w32 (i + (1 : Int)) ∧ w32 (i + (1 : Int)) < gL g (-4) := ⟨I.ks, by rw [w32_id (by omega) (by omega)]; omega, by rw [w32_id (by omega) (by omega), I.ls]; omega⟩
  have rd2 : gK g (-4) = 20 ∧ 0 ≤ w32 (i + (2 : Int)) ∧ w32 (i + (2 : Int)) < gL g (-4) := ⟨I.ks, by rw [w32_id (by omega) (by omega)]; omega, by rw [w32_id (by omega) (by omega), I.ls]; omega⟩
  have rd3 : gK g (-4) = 20 ∧ 0 ≤ w32 (i + (3 : Int)) ∧ w32 (i + (3 : Int)) < gL g (-4) := ⟨I.ks, by rw [w32_id (by omega) (by omega)]; omega, by rw [w32_id (by omega) (by omega), I.ls]; omega⟩
  rw [B266_1548, ga (rd1), ga (rd2), ga (rd3), ga k11]
  refine C129 g h I.c (d + 35) _ (fun h2 c2 e2 => ?_)
  have m2 := I.m.kept e2
  have e4 := e2 (-4) (by decide)
  rw [o1, List.cons_append, List.nil_append, B266_1567, ga (rd1), ga (rd2), ga (rd3), ga k12, e4]
  refine (C260 (I.ar _).2 (I.ar _).2) g h2 m2 I.c.cok (d + 35) _ (fun h3 m3 e3 => ?_)
  rw [o1, List.cons_append, List.nil_append, B266_1586, if_pos rfl]
  exact nx _ h3 (I.go c2 e2 m3 e3)
theorem K40 {g : KG} {h : KH} {W : Wd} {Ln : Int} (I : LwI g h W Ln) {i : Int} (i0 : 0 ≤ i) (i1 : i + 6 ≤ Ln) {d : Nat} {Q : Option KV → KG → KH → Prop} (nx : ∀ (W2 : Wd) (h2 : KH), LwI g h2 W2 Ln → Rn (d + 40) 266 1650 [xR (-4), xR 0, xR 138, xI i] [] g h2 Q) : Rn (d + 40) 266 1591 [xR (-4), xR 0, xR 138, xI i] [] g h Q := by
  have lm := I.lm
  have k11 := I.c.k11
  have k12 := I.m.1.k0
  have rd1 : gK g (-4) = 20 ∧ 0 ≤ w32 (i + (1 : Int)) ∧ w32 (i + (1 : Int)) < gL g (-4) := ⟨I.ks, by rw [w32_id (by omega) (by omega)]; omega, by rw [w32_id (by omega) (by omega), I.ls]; omega⟩
  have rd2 : gK g (-4) = 20 ∧ 0 ≤ w32 (i + (2 : Int)) ∧ w32 (i + (2 : Int)) < gL g (-4) := ⟨I.ks, by rw [w32_id (by omega) (by omega)]; omega, by rw [w32_id (by omega) (by omega), I.ls]; omega⟩
  rw [B266_1591, ga (rd1), ga (rd2), ga k11]
  refine C130 g h I.c (d + 33) _ (fun h2 c2 e2 => ?_)
  have m2 := I.m.kept e2
  have e4 := e2 (-4) (by decide)
  rw [o1, List.cons_append, List.nil_append, B266_1605, ga (rd1), ga (rd2), ga k12, e4]
  refine C261 g h2 m2 I.c.cok (d + 31) _ (fun h3 m3 e3 => ?_)
  rw [o1, List.cons_append, List.nil_append, B266_1619, if_pos rfl]
  exact nx _ h3 (I.go c2 e2 m3 e3)
theorem K41 {g : KG} {h : KH} {W : Wd} {Ln : Int} (I : LwI g h W Ln) {i : Int} (i0 : 0 ≤ i) (i1 : i + 6 ≤ Ln) {d : Nat} {Q : Option KV → KG → KH → Prop} (nx : ∀ (W2 : Wd) (h2 : KH), LwI g h2 W2 Ln → Rn (d + 40) 266 1650 [xR (-4), xR 0, xR 138, xI i] [] g h2 Q) : Rn (d + 40) 266 1624 [xR (-4), xR 0, xR 138, xI i] [] g h Q := by
  have lm := I.lm
  have k11 := I.c.k11
  have k12 := I.m.1.k0
  rw [B266_1624, ga k11]
  refine C131 g h I.c (d + 36) _ (fun h2 c2 e2 => ?_)
  have m2 := I.m.kept e2
  have e4 := e2 (-4) (by decide)
  rw [o1, List.cons_append, List.nil_append, B266_1628, ga k12]
  refine (C263 I.c.rg) g h2 m2 I.c.cok (d + 38) _ (fun h3 m3 e3 => ?_)
  rw [o1, List.cons_append, List.nil_append, B266_1632, if_pos rfl]
  exact nx _ h3 (I.go c2 e2 m3 e3)
theorem K42 {g : KG} {h : KH} {W : Wd} {Ln : Int} (I : LwI g h W Ln) {i : Int} (i0 : 0 ≤ i) (i1 : i + 6 ≤ Ln) {d : Nat} {Q : Option KV → KG → KH → Prop} (nx : ∀ (W2 : Wd) (h2 : KH), LwI g h2 W2 Ln → Rn (d + 40) 266 1650 [xR (-4), xR 0, xR 138, xI i] [] g h2 Q) : Rn (d + 40) 266 1637 [xR (-4), xR 0, xR 138, xI i] [] g h Q := by
  have lm := I.lm
  have k11 := I.c.k11
  have k12 := I.m.1.k0
  rw [B266_1637, ga k11]
  refine C132 g h I.c (d + 36) _ (fun h2 c2 e2 => ?_)
  have m2 := I.m.kept e2
  have e4 := e2 (-4) (by decide)
  rw [o1, List.cons_append, List.nil_append, B266_1641, ga k12]
  refine (C264 I.c.rg) g h2 m2 I.c.cok (d + 38) _ (fun h3 m3 e3 => ?_)
  rw [o1, List.cons_append, List.nil_append, B266_1645, if_pos rfl]
  exact nx _ h3 (I.go c2 e2 m3 e3)
