/-! STEPS. What is fixed in a method's run: the frame, the world, the two texts (t0, t1) and the script (b). -/
/-- what of the two texts and of the script is known, at a method's start -/
def kS0 : List Int := sby (-2)
def kS1 : List Int := sby (-3)
def txByt : List (List Int32) := [kS0.map Int32.ofInt, kS1.map Int32.ofInt]
def txLen : List Nat := [kS0.length, kS1.length]
def NW (s : State) : Prop := ∀ e ∈ mtabl, e.2.2.2.2.2.1 ≠ 0 → va_Nw (.methodLinkNest (cnm e.1) e.2.1 (mnm e.2.2.1) "KitchenSheets") s
def XT (b t0 t1 : Nat) (A : Nat → Prop) (xs : Nat → Int32) (Ln : Nat) (s : State) : Prop :=
  va_X b Ln xs s s.heap ∧ b < s.heap.size ∧ ¬ A b ∧ vk_R RX12 164 " ask law mind by door walk cards " t0 s ∧ vk_R RX12 229 " flag or and not same short late rare made card amiss " t1 s ∧ ∃ (adV : Nat → Nat), vk_S 2 txLen txByt (fun i => if i = 0 then t0 else t1) adV A s s.heap ∧ va_AO RX10 s ∧ va_AO RX7 s ∧ va_Z RJ0 "COMPACT_STRINGS" "Z" (.int 1) A s s.heap ∧ va_Zq RJ3 "SIOOBE_FORMATTER" "Ljava/util/function/BiFunction;" A s s.heap ∧ NW s
def Fr (p : Program) (R : Room) (s : State) (m : MethodId) (args : Array Value) (meth : Method) (c : Code) (D : va_G) (dA : Nat → ClassId) (A : Nat → Prop) (b t0 t1 : Nat) (xs : Nat → Int32) (Ln : Nat) (k d : Nat) : Prop :=
  p.tables.exec = Jvm.exec ∧ c.code = mcode k ∧ c.maxLocals = mloc k ∧ s.vm.findClass (cnm (mcls k)) = some m.cls ∧ (minit k = true → meth.name = "<init>") ∧ (∀ w ∈ lgd, w.before args s = true) ∧ va_K D vwC (tysA dA) s ∧ (∀ q, s.heap.size ≤ q → A q) ∧ XT b t0 t1 A xs Ln s ∧ d + 8 ≤ R.frames ∧ 41 * d + 400 ≤ R.locals
def SW (p : Program) (l : Launch) (e : Env) (R : Room) (s : State) (m : MethodId) (args : Array Value) (below : List Frame) (meth : Method) (c : Code) (Q : State → Prop) (D : va_G) (dA : Nat → ClassId) (A : Nat → Prop) (b t0 t1 : Nat) (ad0 : Int → Nat) (n0 cb sb : Int) (xs : Nat → Int32) (Ln : Nat) (k : Nat) (pc : Nat) (ls st : List KV) (g : KG) (h : KH) : Prop :=
  ∀ (ad : Int → Nat) (H : Heap) (locs : List Loc) (cells slots : Nat) (L : Array Slot),
    okW xs Ln g h → (∀ v ∈ st, okV g v) → (∀ v ∈ ls, v = xU ∨ okV g v) → ls.length = mloc k → lvr ad ls L (mloc k) →
    (ad (-4) = b ∧ ad (-2) = t0 ∧ ad (-3) = t1) → (n0 ≤ gN g ∧ 0 ≤ n0 ∧ ∀ i, 0 ≤ i → i < n0 → ad i = ad0 i) →
    va_P D vwC (wl dA ad g h) H → va_D A (wl dA ad g h) → va_S A s.heap H locs →
    (cells : Int) = gC g - cb → (slots : Int) = gS g - sb →
    W p l e R s m args below meth c H locs cells slots Q (F0 m pc L (st.map (rv ad)))
/-- where an instruction stands -/
def At_ (k pc : Nat) (i : Instr) (nx : Nat) : Prop := ∃ n, decode (mcode k) pc = .ok (i, n) ∧ nx = pc + n ∧ (match fln i with | some x => n == x | none => true) = true
theorem At_of {k pc nx : Nat} {i : Instr} (h : fetch k pc = some (i, nx)) : At_ k pc i nx := by
  unfold fetch at h
  cases hd : decode (mcode k) pc with
  | error e => rw [hd] at h; cases h
  | ok q =>
    obtain ⟨j, n⟩ := q
    rw [hd] at h
    by_cases hc : (match fln j with | some x => n == x | none => true) = true
    · have h2 : (if (match fln j with | some x => n == x | none => true) = true then some (j, pc + n) else none) = some (i, nx) := h
      rw [if_pos hc] at h2
      cases h2
      exact ⟨n, hd, rfl, hc⟩
    · have h2 : (if (match fln j with | some x => n == x | none => true) = true then some (j, pc + n) else none) = some (i, nx) := h
      rw [if_neg hc] at h2
      cases h2
theorem nxs_inv {n : Nat} {ls : List KV} {o : Option (List KV)} {g : KG} {h : KH} {z : KS} (hz : nxs n ls o g h = some z) : ∃ st, o = some st ∧ z = (n, ls, st, g, h) := by
  unfold nxs at hz
  split at hz
  · cases hz; exact ⟨_, rfl, rfl⟩
  · cases hz
theorem nxl_inv {n : Nat} {o : Option (List KV × List KV)} {g : KG} {h : KH} {z : KS} (hz : nxl n o g h = some z) : ∃ ls st, o = some (ls, st) ∧ z = (n, ls, st, g, h) := by
  unfold nxl at hz
  split at hz
  · cases hz; exact ⟨_, _, rfl, rfl⟩
  · cases hz
theorem bin32_inv {st st1 : List KV} {f : Int → Int → Int} (hz : bin32 st f = some st1) : ∃ a b s, st = xI b :: xI a :: s ∧ st1 = xI (f a b) :: s := by
  unfold bin32 at hz
  split at hz
  · cases hz; exact ⟨_, _, _, rfl, rfl⟩
  · cases hz
theorem bin64_inv {st st1 : List KV} {f : Int → Int → Int} (hz : bin64 st f = some st1) : ∃ a b s, st = xL b :: xL a :: s ∧ st1 = xL (f a b) :: s := by
  unfold bin64 at hz
  split at hz
  · cases hz; exact ⟨_, _, _, rfl, rfl⟩
  · cases hz
theorem div32_inv {st st1 : List KV} {f : Int → Int → Int} (hz : div32 st f = some st1) : ∃ a b s, st = xI b :: xI a :: s ∧ st1 = xI (f a b) :: s ∧ b ≠ 0 := by
  unfold div32 at hz
  split at hz
  · split at hz
    · cases hz
    · rename_i hb; cases hz; exact ⟨_, _, _, rfl, rfl, hb⟩
  · cases hz
theorem div64_inv {st st1 : List KV} {f : Int → Int → Int} (hz : div64 st f = some st1) : ∃ a b s, st = xL b :: xL a :: s ∧ st1 = xL (f a b) :: s ∧ b ≠ 0 := by
  unfold div64 at hz
  split at hz
  · split at hz
    · cases hz
    · rename_i hb; cases hz; exact ⟨_, _, _, rfl, rfl, hb⟩
  · cases hz
theorem sh32_inv {st st1 : List KV} {f : Int → Int → Int} (hz : sh32 st f = some st1) : ∃ a b s, st = xI b :: xI a :: s ∧ st1 = xI (f a b) :: s ∧ 0 ≤ b ∧ b < 32 := by
  unfold sh32 at hz
  split at hz
  · split at hz
    · rename_i hb; cases hz; exact ⟨_, _, _, rfl, rfl, hb⟩
    · cases hz
  · cases hz
theorem sh64_inv {st st1 : List KV} {f : Int → Int → Int} (hz : sh64 st f = some st1) : ∃ a b s, st = xI b :: xL a :: s ∧ st1 = xL (f a b) :: s ∧ 0 ≤ b ∧ b < 64 := by
  unfold sh64 at hz
  split at hz
  · split at hz
    · rename_i hb; cases hz; exact ⟨_, _, _, rfl, rfl, hb⟩
    · cases hz
  · cases hz
theorem un32_inv {st st1 : List KV} {f : Int → Int} (hz : un32 st f = some st1) : ∃ a s, st = xI a :: s ∧ st1 = xI (f a) :: s := by
  unfold un32 at hz
  split at hz
  · cases hz; exact ⟨_, _, rfl, rfl⟩
  · cases hz
theorem ldI_inv {ls st st1 : List KV} {j : Nat} (hz : ldI ls st j = some st1) : ∃ a, ls[j]? = some (xI a) ∧ st1 = xI a :: st := by
  unfold ldI at hz
  split at hz
  · rename_i h; cases hz; exact ⟨_, h, rfl⟩
  · cases hz
theorem ldL_inv {ls st st1 : List KV} {j : Nat} (hz : ldL ls st j = some st1) : ∃ a, ls[j]? = some (xL a) ∧ st1 = xL a :: st := by
  unfold ldL at hz
  split at hz
  · rename_i h; cases hz; exact ⟨_, h, rfl⟩
  · cases hz
theorem ldR_inv {ls st st1 : List KV} {j : Nat} (hz : ldR ls st j = some st1) : ∃ a, ls[j]? = some (xR a) ∧ st1 = xR a :: st := by
  unfold ldR at hz
  split at hz
  · rename_i h; cases hz; exact ⟨_, h, rfl⟩
  · cases hz
theorem soI_inv {ls st ls1 st1 : List KV} {j : Nat} (hz : soI ls st j = some (ls1, st1)) : ∃ a, st = xI a :: st1 ∧ ls1 = stI ls j (xI a) ∧ j < ls.length := by
  unfold soI at hz
  split at hz
  · split at hz
    · rename_i h; cases hz; exact ⟨_, rfl, rfl, h⟩
    · cases hz
  · cases hz
theorem soL_inv {ls st ls1 st1 : List KV} {j : Nat} (hz : soL ls st j = some (ls1, st1)) : ∃ a, st = xL a :: st1 ∧ ls1 = stL ls j (xL a) ∧ j + 1 < ls.length := by
  unfold soL at hz
  split at hz
  · split at hz
    · rename_i h; cases hz; exact ⟨_, rfl, rfl, h⟩
    · cases hz
  · cases hz
theorem soR_inv {ls st ls1 st1 : List KV} {j : Nat} (hz : soR ls st j = some (ls1, st1)) : ∃ a, st = xR a :: st1 ∧ ls1 = stI ls j (xR a) ∧ j < ls.length ∧ 0 ≤ a := by
  unfold soR at hz
  split at hz
  · split at hz
    · rename_i h; cases hz; exact ⟨_, rfl, rfl, h.1, h.2⟩
    · cases hz
  · cases hz
theorem jmp_inv {pc : Nat} {off : Int} {ls st : List KV} {g : KG} {h : KH} {z : KS} (hz : jmp pc off ls st g h = some z) : ∃ t : Nat, (pc : Int) + off = (t : Int) ∧ z = (t, ls, st, g, h) := by
  unfold jmp at hz
  split at hz
  · rename_i hp; cases hz; exact ⟨((pc : Int) + off).toNat, by omega, rfl⟩
  · cases hz
theorem okV_tl {g : KG} {v : KV} {st : List KV} (h : ∀ w ∈ v :: st, okV g w) : ∀ w ∈ st, okV g w := fun w hw => h w (List.mem_cons_of_mem _ hw)
theorem okV_hd {g : KG} {v : KV} {st : List KV} (h : ∀ w ∈ v :: st, okV g w) : okV g v := h v List.mem_cons_self
theorem okV_cons {g : KG} {v : KV} {st : List KV} (h0 : okV g v) (h : ∀ w ∈ st, okV g w) : ∀ w ∈ v :: st, okV g w := fun w hw => by
  rcases List.mem_cons.mp hw with rfl | hw
  · exact h0
  · exact h w hw
theorem stI_mem {g : KG} {ls : List KV} {i : Nat} {v : KV} (h : ∀ w ∈ ls, w = xU ∨ okV g w) (hv : okV g v) : ∀ w ∈ stI ls i v, w = xU ∨ okV g w := by
  intro w hw
  obtain ⟨j, hj⟩ := List.getElem?_of_mem hw
  by_cases q : w = xU
  · exact Or.inl q
  · rcases stI_get hj q with ⟨-, rfl⟩ | ⟨-, e, -⟩
    · exact Or.inr hv
    · exact h w (List.mem_of_getElem? e)
theorem stL_mem {g : KG} {ls : List KV} {i : Nat} {v : KV} (h : ∀ w ∈ ls, w = xU ∨ okV g w) (hv : okV g v) : ∀ w ∈ stL ls i v, w = xU ∨ okV g w := by
  intro w hw
  unfold stL at hw
  rcases List.mem_or_eq_of_mem_set hw with hw | rfl
  · exact stI_mem h hv w hw
  · exact Or.inl rfl
section SIMPLE
variable {p : Program} {l : Launch} {e : Env} {R : Room} {s : State} {m : MethodId} {args : Array Value} {below : List Frame} {meth : Method} {c : Code} {Q : State → Prop} {D : va_G} {dA : Nat → ClassId} {A : Nat → Prop} {b t0 t1 : Nat} {ad0 : Int → Nat} {n0 cb sb : Int} {xs : Nat → Int32} {Ln : Nat} {k d pc nx : Nat} {ls st : List KV} {g : KG} {h : KH}
/-- a step that changes the stack alone -/
theorem sw_st {st1 : List KV} (hN : SW p l e R s m args below meth c Q D dA A b t0 t1 ad0 n0 cb sb xs Ln k nx ls st1 g h) (hok : (∀ v ∈ st, okV g v) → (∀ v ∈ ls, v = xU ∨ okV g v) → ∀ v ∈ st1, okV g v)
    (row : ∀ (ad : Int → Nat) (H : Heap) (locs : List Loc) (cells slots : Nat) (L : Array Slot), (∀ v ∈ st, okV g v) → (∀ v ∈ ls, v = xU ∨ okV g v) → lvr ad ls L (mloc k) → W p l e R s m args below meth c H locs cells slots Q (F0 m nx L (st1.map (rv ad))) → W p l e R s m args below meth c H locs cells slots Q (F0 m pc L (st.map (rv ad)))) : SW p l e R s m args below meth c Q D dA A b t0 t1 ad0 n0 cb sb xs Ln k pc ls st g h := by
  intro ad H locs cells slots L hW hst hls hlen hlv had hn hP hD hS hc hs
  exact row ad H locs cells slots L hst hls hlv (hN ad H locs cells slots L hW (hok hst hls) hls hlen hlv had hn hP hD hS hc hs)

theorem sw_iadd (F : Fr p R s m args meth c D dA A b t0 t1 xs Ln k d) {st1 : List KV} (hi : At_ k pc (.iadd) nx) (hs : bin32 st (fun a b => w32 (a + b)) = some st1) (hN : SW p l e R s m args below meth c Q D dA A b t0 t1 ad0 n0 cb sb xs Ln k nx ls st1 g h) : SW p l e R s m args below meth c Q D dA A b t0 t1 ad0 n0 cb sb xs Ln k pc ls st g h := by
  obtain ⟨n, hd, rfl, hln⟩ := hi
  have hln : n = 1 := by simpa [fln] using hln
  subst hln
  have hx := F.1
  have hb := F.2.1
  obtain ⟨a, b2, st2, rfl, rfl⟩ := bin32_inv hs
  refine sw_st hN (fun h1 _ => okV_cons (w32_in _) (okV_tl (okV_tl h1))) (fun ad H locs cells slots L h1 _ _ K => ?_)
  refine lv_iadd hx hb hd ?_
  rw [o32_add (okV_hd (okV_tl h1)) (okV_hd h1)]
  exact K
theorem sw_isub (F : Fr p R s m args meth c D dA A b t0 t1 xs Ln k d) {st1 : List KV} (hi : At_ k pc (.isub) nx) (hs : bin32 st (fun a b => w32 (a - b)) = some st1) (hN : SW p l e R s m args below meth c Q D dA A b t0 t1 ad0 n0 cb sb xs Ln k nx ls st1 g h) : SW p l e R s m args below meth c Q D dA A b t0 t1 ad0 n0 cb sb xs Ln k pc ls st g h := by
  obtain ⟨n, hd, rfl, hln⟩ := hi
  have hln : n = 1 := by simpa [fln] using hln
  subst hln
  have hx := F.1
  have hb := F.2.1
  obtain ⟨a, b2, st2, rfl, rfl⟩ := bin32_inv hs
  refine sw_st hN (fun h1 _ => okV_cons (w32_in _) (okV_tl (okV_tl h1))) (fun ad H locs cells slots L h1 _ _ K => ?_)
  refine lv_isub hx hb hd ?_
  rw [o32_sub (okV_hd (okV_tl h1)) (okV_hd h1)]
  exact K
theorem sw_imul (F : Fr p R s m args meth c D dA A b t0 t1 xs Ln k d) {st1 : List KV} (hi : At_ k pc (.imul) nx) (hs : bin32 st (fun a b => w32 (a * b)) = some st1) (hN : SW p l e R s m args below meth c Q D dA A b t0 t1 ad0 n0 cb sb xs Ln k nx ls st1 g h) : SW p l e R s m args below meth c Q D dA A b t0 t1 ad0 n0 cb sb xs Ln k pc ls st g h := by
  obtain ⟨n, hd, rfl, hln⟩ := hi
  have hln : n = 1 := by simpa [fln] using hln
  subst hln
  have hx := F.1
  have hb := F.2.1
  obtain ⟨a, b2, st2, rfl, rfl⟩ := bin32_inv hs
  refine sw_st hN (fun h1 _ => okV_cons (w32_in _) (okV_tl (okV_tl h1))) (fun ad H locs cells slots L h1 _ _ K => ?_)
  refine lv_imul hx hb hd ?_
  rw [o32_mul (okV_hd (okV_tl h1)) (okV_hd h1)]
  exact K
theorem sw_iand (F : Fr p R s m args meth c D dA A b t0 t1 xs Ln k d) {st1 : List KV} (hi : At_ k pc (.iand) nx) (hs : bin32 st and32 = some st1) (hN : SW p l e R s m args below meth c Q D dA A b t0 t1 ad0 n0 cb sb xs Ln k nx ls st1 g h) : SW p l e R s m args below meth c Q D dA A b t0 t1 ad0 n0 cb sb xs Ln k pc ls st g h := by
  obtain ⟨n, hd, rfl, hln⟩ := hi
  have hln : n = 1 := by simpa [fln] using hln
  subst hln
  have hx := F.1
  have hb := F.2.1
  obtain ⟨a, b2, st2, rfl, rfl⟩ := bin32_inv hs
  refine sw_st hN (fun h1 _ => okV_cons (bv32_in _) (okV_tl (okV_tl h1))) (fun ad H locs cells slots L h1 _ _ K => ?_)
  refine lv_iand hx hb hd ?_
  rw [o32_and]
  exact K
theorem sw_ior (F : Fr p R s m args meth c D dA A b t0 t1 xs Ln k d) {st1 : List KV} (hi : At_ k pc (.ior) nx) (hs : bin32 st or32 = some st1) (hN : SW p l e R s m args below meth c Q D dA A b t0 t1 ad0 n0 cb sb xs Ln k nx ls st1 g h) : SW p l e R s m args below meth c Q D dA A b t0 t1 ad0 n0 cb sb xs Ln k pc ls st g h := by
  obtain ⟨n, hd, rfl, hln⟩ := hi
  have hln : n = 1 := by simpa [fln] using hln
  subst hln
  have hx := F.1
  have hb := F.2.1
  obtain ⟨a, b2, st2, rfl, rfl⟩ := bin32_inv hs
  refine sw_st hN (fun h1 _ => okV_cons (bv32_in _) (okV_tl (okV_tl h1))) (fun ad H locs cells slots L h1 _ _ K => ?_)
  refine lv_ior hx hb hd ?_
  rw [o32_or]
  exact K
theorem sw_ixor (F : Fr p R s m args meth c D dA A b t0 t1 xs Ln k d) {st1 : List KV} (hi : At_ k pc (.ixor) nx) (hs : bin32 st xor32 = some st1) (hN : SW p l e R s m args below meth c Q D dA A b t0 t1 ad0 n0 cb sb xs Ln k nx ls st1 g h) : SW p l e R s m args below meth c Q D dA A b t0 t1 ad0 n0 cb sb xs Ln k pc ls st g h := by
  obtain ⟨n, hd, rfl, hln⟩ := hi
  have hln : n = 1 := by simpa [fln] using hln
  subst hln
  have hx := F.1
  have hb := F.2.1
  obtain ⟨a, b2, st2, rfl, rfl⟩ := bin32_inv hs
  refine sw_st hN (fun h1 _ => okV_cons (bv32_in _) (okV_tl (okV_tl h1))) (fun ad H locs cells slots L h1 _ _ K => ?_)
  refine lv_ixor hx hb hd ?_
  rw [o32_xor]
  exact K
theorem sw_ladd (F : Fr p R s m args meth c D dA A b t0 t1 xs Ln k d) {st1 : List KV} (hi : At_ k pc (.ladd) nx) (hs : bin64 st (fun a b => w64 (a + b)) = some st1) (hN : SW p l e R s m args below meth c Q D dA A b t0 t1 ad0 n0 cb sb xs Ln k nx ls st1 g h) : SW p l e R s m args below meth c Q D dA A b t0 t1 ad0 n0 cb sb xs Ln k pc ls st g h := by
  obtain ⟨n, hd, rfl, hln⟩ := hi
  have hln : n = 1 := by simpa [fln] using hln
  subst hln
  have hx := F.1
  have hb := F.2.1
  obtain ⟨a, b2, st2, rfl, rfl⟩ := bin64_inv hs
  refine sw_st hN (fun h1 _ => okV_cons (w64_in _) (okV_tl (okV_tl h1))) (fun ad H locs cells slots L h1 _ _ K => ?_)
  refine lv_ladd hx hb hd ?_
  rw [o64_add (okV_hd (okV_tl h1)) (okV_hd h1)]
  exact K
theorem sw_lsub (F : Fr p R s m args meth c D dA A b t0 t1 xs Ln k d) {st1 : List KV} (hi : At_ k pc (.lsub) nx) (hs : bin64 st (fun a b => w64 (a - b)) = some st1) (hN : SW p l e R s m args below meth c Q D dA A b t0 t1 ad0 n0 cb sb xs Ln k nx ls st1 g h) : SW p l e R s m args below meth c Q D dA A b t0 t1 ad0 n0 cb sb xs Ln k pc ls st g h := by
  obtain ⟨n, hd, rfl, hln⟩ := hi
  have hln : n = 1 := by simpa [fln] using hln
  subst hln
  have hx := F.1
  have hb := F.2.1
  obtain ⟨a, b2, st2, rfl, rfl⟩ := bin64_inv hs
  refine sw_st hN (fun h1 _ => okV_cons (w64_in _) (okV_tl (okV_tl h1))) (fun ad H locs cells slots L h1 _ _ K => ?_)
  refine lv_lsub hx hb hd ?_
  rw [o64_sub (okV_hd (okV_tl h1)) (okV_hd h1)]
  exact K
theorem sw_lmul (F : Fr p R s m args meth c D dA A b t0 t1 xs Ln k d) {st1 : List KV} (hi : At_ k pc (.lmul) nx) (hs : bin64 st (fun a b => w64 (a * b)) = some st1) (hN : SW p l e R s m args below meth c Q D dA A b t0 t1 ad0 n0 cb sb xs Ln k nx ls st1 g h) : SW p l e R s m args below meth c Q D dA A b t0 t1 ad0 n0 cb sb xs Ln k pc ls st g h := by
  obtain ⟨n, hd, rfl, hln⟩ := hi
  have hln : n = 1 := by simpa [fln] using hln
  subst hln
  have hx := F.1
  have hb := F.2.1
  obtain ⟨a, b2, st2, rfl, rfl⟩ := bin64_inv hs
  refine sw_st hN (fun h1 _ => okV_cons (w64_in _) (okV_tl (okV_tl h1))) (fun ad H locs cells slots L h1 _ _ K => ?_)
  refine lv_lmul hx hb hd ?_
  rw [o64_mul (okV_hd (okV_tl h1)) (okV_hd h1)]
  exact K
theorem sw_land (F : Fr p R s m args meth c D dA A b t0 t1 xs Ln k d) {st1 : List KV} (hi : At_ k pc (.land) nx) (hs : bin64 st and64 = some st1) (hN : SW p l e R s m args below meth c Q D dA A b t0 t1 ad0 n0 cb sb xs Ln k nx ls st1 g h) : SW p l e R s m args below meth c Q D dA A b t0 t1 ad0 n0 cb sb xs Ln k pc ls st g h := by
  obtain ⟨n, hd, rfl, hln⟩ := hi
  have hln : n = 1 := by simpa [fln] using hln
  subst hln
  have hx := F.1
  have hb := F.2.1
  obtain ⟨a, b2, st2, rfl, rfl⟩ := bin64_inv hs
  refine sw_st hN (fun h1 _ => okV_cons (bv64_in _) (okV_tl (okV_tl h1))) (fun ad H locs cells slots L h1 _ _ K => ?_)
  refine lv_land hx hb hd ?_
  rw [o64_and]
  exact K
theorem sw_lor (F : Fr p R s m args meth c D dA A b t0 t1 xs Ln k d) {st1 : List KV} (hi : At_ k pc (.lor) nx) (hs : bin64 st or64 = some st1) (hN : SW p l e R s m args below meth c Q D dA A b t0 t1 ad0 n0 cb sb xs Ln k nx ls st1 g h) : SW p l e R s m args below meth c Q D dA A b t0 t1 ad0 n0 cb sb xs Ln k pc ls st g h := by
  obtain ⟨n, hd, rfl, hln⟩ := hi
  have hln : n = 1 := by simpa [fln] using hln
  subst hln
  have hx := F.1
  have hb := F.2.1
  obtain ⟨a, b2, st2, rfl, rfl⟩ := bin64_inv hs
  refine sw_st hN (fun h1 _ => okV_cons (bv64_in _) (okV_tl (okV_tl h1))) (fun ad H locs cells slots L h1 _ _ K => ?_)
  refine lv_lor hx hb hd ?_
  rw [o64_or]
  exact K
theorem sw_lxor (F : Fr p R s m args meth c D dA A b t0 t1 xs Ln k d) {st1 : List KV} (hi : At_ k pc (.lxor) nx) (hs : bin64 st xor64 = some st1) (hN : SW p l e R s m args below meth c Q D dA A b t0 t1 ad0 n0 cb sb xs Ln k nx ls st1 g h) : SW p l e R s m args below meth c Q D dA A b t0 t1 ad0 n0 cb sb xs Ln k pc ls st g h := by
  obtain ⟨n, hd, rfl, hln⟩ := hi
  have hln : n = 1 := by simpa [fln] using hln
  subst hln
  have hx := F.1
  have hb := F.2.1
  obtain ⟨a, b2, st2, rfl, rfl⟩ := bin64_inv hs
  refine sw_st hN (fun h1 _ => okV_cons (bv64_in _) (okV_tl (okV_tl h1))) (fun ad H locs cells slots L h1 _ _ K => ?_)
  refine lv_lxor hx hb hd ?_
  rw [o64_xor]
  exact K
theorem sw_idiv (F : Fr p R s m args meth c D dA A b t0 t1 xs Ln k d) {st1 : List KV} (hi : At_ k pc (.idiv) nx) (hs : div32 st (fun a b => w32 (Int.tdiv a b)) = some st1) (hN : SW p l e R s m args below meth c Q D dA A b t0 t1 ad0 n0 cb sb xs Ln k nx ls st1 g h) : SW p l e R s m args below meth c Q D dA A b t0 t1 ad0 n0 cb sb xs Ln k pc ls st g h := by
  obtain ⟨n, hd, rfl, hln⟩ := hi
  have hln : n = 1 := by simpa [fln] using hln
  subst hln
  have hx := F.1
  have hb := F.2.1
  obtain ⟨a, b2, st2, rfl, rfl, hb0⟩ := div32_inv hs
  refine sw_st hN (fun h1 _ => okV_cons (w32_in _) (okV_tl (okV_tl h1))) (fun ad H locs cells slots L h1 _ _ K => ?_)
  refine lv_idiv hx hb hd (fun q => hb0 ((o32_inj (okV_hd h1) in32_0).mp q)) ?_
  rw [o32_div (okV_hd (okV_tl h1)) (okV_hd h1)]
  exact K
theorem sw_irem (F : Fr p R s m args meth c D dA A b t0 t1 xs Ln k d) {st1 : List KV} (hi : At_ k pc (.irem) nx) (hs : div32 st (fun a b => Int.tmod a b) = some st1) (hN : SW p l e R s m args below meth c Q D dA A b t0 t1 ad0 n0 cb sb xs Ln k nx ls st1 g h) : SW p l e R s m args below meth c Q D dA A b t0 t1 ad0 n0 cb sb xs Ln k pc ls st g h := by
  obtain ⟨n, hd, rfl, hln⟩ := hi
  have hln : n = 1 := by simpa [fln] using hln
  subst hln
  have hx := F.1
  have hb := F.2.1
  obtain ⟨a, b2, st2, rfl, rfl, hb0⟩ := div32_inv hs
  refine sw_st hN (fun h1 _ => okV_cons (tmod_in32 (okV_hd (okV_tl h1))) (okV_tl (okV_tl h1))) (fun ad H locs cells slots L h1 _ _ K => ?_)
  refine lv_irem hx hb hd (fun q => hb0 ((o32_inj (okV_hd h1) in32_0).mp q)) ?_
  rw [o32_rem (okV_hd (okV_tl h1)) (okV_hd h1)]
  exact K
theorem sw_ldiv (F : Fr p R s m args meth c D dA A b t0 t1 xs Ln k d) {st1 : List KV} (hi : At_ k pc (.ldiv) nx) (hs : div64 st (fun a b => w64 (Int.tdiv a b)) = some st1) (hN : SW p l e R s m args below meth c Q D dA A b t0 t1 ad0 n0 cb sb xs Ln k nx ls st1 g h) : SW p l e R s m args below meth c Q D dA A b t0 t1 ad0 n0 cb sb xs Ln k pc ls st g h := by
  obtain ⟨n, hd, rfl, hln⟩ := hi
  have hln : n = 1 := by simpa [fln] using hln
  subst hln
  have hx := F.1
  have hb := F.2.1
  obtain ⟨a, b2, st2, rfl, rfl, hb0⟩ := div64_inv hs
  refine sw_st hN (fun h1 _ => okV_cons (w64_in _) (okV_tl (okV_tl h1))) (fun ad H locs cells slots L h1 _ _ K => ?_)
  refine lv_ldiv hx hb hd (fun q => hb0 ((o64_inj (okV_hd h1) in64_0).mp q)) ?_
  rw [o64_div (okV_hd (okV_tl h1)) (okV_hd h1)]
  exact K
theorem sw_lrem (F : Fr p R s m args meth c D dA A b t0 t1 xs Ln k d) {st1 : List KV} (hi : At_ k pc (.lrem) nx) (hs : div64 st (fun a b => Int.tmod a b) = some st1) (hN : SW p l e R s m args below meth c Q D dA A b t0 t1 ad0 n0 cb sb xs Ln k nx ls st1 g h) : SW p l e R s m args below meth c Q D dA A b t0 t1 ad0 n0 cb sb xs Ln k pc ls st g h := by
  obtain ⟨n, hd, rfl, hln⟩ := hi
  have hln : n = 1 := by simpa [fln] using hln
  subst hln
  have hx := F.1
  have hb := F.2.1
  obtain ⟨a, b2, st2, rfl, rfl, hb0⟩ := div64_inv hs
  refine sw_st hN (fun h1 _ => okV_cons (tmod_in64 (okV_hd (okV_tl h1))) (okV_tl (okV_tl h1))) (fun ad H locs cells slots L h1 _ _ K => ?_)
  refine lv_lrem hx hb hd (fun q => hb0 ((o64_inj (okV_hd h1) in64_0).mp q)) ?_
  have q : Int64.ofInt a - Int64.ofInt a / Int64.ofInt b2 * Int64.ofInt b2 = Int64.ofInt (Int.tmod a b2) := by
    rw [o64_div (okV_hd (okV_tl h1)) (okV_hd h1), o64_mul (w64_in _) (okV_hd h1), o64_sub (okV_hd (okV_tl h1)) (w64_in _), o64_w]
    apply o64_eq
    have e1 := Int.tmod_add_mul_tdiv a b2
    have e2 : w64 (Int.tdiv a b2) * b2 = b2 * Int.tdiv a b2 ∨ True := Or.inr trivial
    have e3 : ∃ z, w64 (Int.tdiv a b2) = Int.tdiv a b2 + 18446744073709551616 * z := ⟨(w64 (Int.tdiv a b2) - Int.tdiv a b2) / 18446744073709551616, by unfold w64; omega⟩
    obtain ⟨z, hz⟩ := e3
    have e4 : w64 (Int.tdiv a b2) * b2 = b2 * Int.tdiv a b2 + 18446744073709551616 * (z * b2) := by rw [hz, Int.add_mul, Int.mul_comm (Int.tdiv a b2) b2, Int.mul_assoc]
    rw [e4]
    generalize z * b2 = y at *
    generalize b2 * Int.tdiv a b2 = x at *
    generalize Int.tmod a b2 = r at *
    unfold w64
    omega
  rw [q]
  exact K
theorem sw_ishl (F : Fr p R s m args meth c D dA A b t0 t1 xs Ln k d) {st1 : List KV} (hi : At_ k pc (.ishl) nx) (hs : sh32 st shl32 = some st1) (hN : SW p l e R s m args below meth c Q D dA A b t0 t1 ad0 n0 cb sb xs Ln k nx ls st1 g h) : SW p l e R s m args below meth c Q D dA A b t0 t1 ad0 n0 cb sb xs Ln k pc ls st g h := by
  obtain ⟨n, hd, rfl, hln⟩ := hi
  have hln : n = 1 := by simpa [fln] using hln
  subst hln
  have hx := F.1
  have hb := F.2.1
  obtain ⟨a, b2, st2, rfl, rfl, hb0, hb1⟩ := sh32_inv hs
  refine sw_st hN (fun h1 _ => okV_cons (w32_in _) (okV_tl (okV_tl h1))) (fun ad H locs cells slots L h1 _ _ K => ?_)
  refine lv_ishl hx hb hd ?_
  rw [o32_shl (okV_hd h1) hb0 hb1]
  exact K
theorem sw_ishr (F : Fr p R s m args meth c D dA A b t0 t1 xs Ln k d) {st1 : List KV} (hi : At_ k pc (.ishr) nx) (hs : sh32 st shr32 = some st1) (hN : SW p l e R s m args below meth c Q D dA A b t0 t1 ad0 n0 cb sb xs Ln k nx ls st1 g h) : SW p l e R s m args below meth c Q D dA A b t0 t1 ad0 n0 cb sb xs Ln k pc ls st g h := by
  obtain ⟨n, hd, rfl, hln⟩ := hi
  have hln : n = 1 := by simpa [fln] using hln
  subst hln
  have hx := F.1
  have hb := F.2.1
  obtain ⟨a, b2, st2, rfl, rfl, hb0, hb1⟩ := sh32_inv hs
  refine sw_st hN (fun h1 _ => okV_cons ((o32_shr (okV_hd (okV_tl h1)) (okV_hd h1) hb0 hb1).2) (okV_tl (okV_tl h1))) (fun ad H locs cells slots L h1 _ _ K => ?_)
  refine lv_ishr hx hb hd ?_
  rw [(o32_shr (okV_hd (okV_tl h1)) (okV_hd h1) hb0 hb1).1]
  exact K
theorem sw_iushr (F : Fr p R s m args meth c D dA A b t0 t1 xs Ln k d) {st1 : List KV} (hi : At_ k pc (.iushr) nx) (hs : sh32 st ushr32 = some st1) (hN : SW p l e R s m args below meth c Q D dA A b t0 t1 ad0 n0 cb sb xs Ln k nx ls st1 g h) : SW p l e R s m args below meth c Q D dA A b t0 t1 ad0 n0 cb sb xs Ln k pc ls st g h := by
  obtain ⟨n, hd, rfl, hln⟩ := hi
  have hln : n = 1 := by simpa [fln] using hln
  subst hln
  have hx := F.1
  have hb := F.2.1
  obtain ⟨a, b2, st2, rfl, rfl, hb0, hb1⟩ := sh32_inv hs
  refine sw_st hN (fun h1 _ => okV_cons (w32_in _) (okV_tl (okV_tl h1))) (fun ad H locs cells slots L h1 _ _ K => ?_)
  exact lv_iushr hx hb hd (o32_ushr (okV_hd h1) hb0 hb1) K
theorem sw_lshl (F : Fr p R s m args meth c D dA A b t0 t1 xs Ln k d) {st1 : List KV} (hi : At_ k pc (.lshl) nx) (hs : sh64 st shl64 = some st1) (hN : SW p l e R s m args below meth c Q D dA A b t0 t1 ad0 n0 cb sb xs Ln k nx ls st1 g h) : SW p l e R s m args below meth c Q D dA A b t0 t1 ad0 n0 cb sb xs Ln k pc ls st g h := by
  obtain ⟨n, hd, rfl, hln⟩ := hi
  have hln : n = 1 := by simpa [fln] using hln
  subst hln
  have hx := F.1
  have hb := F.2.1
  obtain ⟨a, b2, st2, rfl, rfl, hb0, hb1⟩ := sh64_inv hs
  refine sw_st hN (fun h1 _ => okV_cons (w64_in _) (okV_tl (okV_tl h1))) (fun ad H locs cells slots L h1 _ _ K => ?_)
  exact lv_lshl hx hb hd (o64_shl (okV_hd h1) hb0 hb1) K
theorem sw_lshr (F : Fr p R s m args meth c D dA A b t0 t1 xs Ln k d) {st1 : List KV} (hi : At_ k pc (.lshr) nx) (hs : sh64 st shr64 = some st1) (hN : SW p l e R s m args below meth c Q D dA A b t0 t1 ad0 n0 cb sb xs Ln k nx ls st1 g h) : SW p l e R s m args below meth c Q D dA A b t0 t1 ad0 n0 cb sb xs Ln k pc ls st g h := by
  obtain ⟨n, hd, rfl, hln⟩ := hi
  have hln : n = 1 := by simpa [fln] using hln
  subst hln
  have hx := F.1
  have hb := F.2.1
  obtain ⟨a, b2, st2, rfl, rfl, hb0, hb1⟩ := sh64_inv hs
  refine sw_st hN (fun h1 _ => okV_cons ((o64_shr (okV_hd (okV_tl h1)) (okV_hd h1) hb0 hb1).2) (okV_tl (okV_tl h1))) (fun ad H locs cells slots L h1 _ _ K => ?_)
  exact lv_lshr hx hb hd (o64_shr (okV_hd (okV_tl h1)) (okV_hd h1) hb0 hb1).1 K
theorem sw_i2b (F : Fr p R s m args meth c D dA A b t0 t1 xs Ln k d) {st1 : List KV} (hi : At_ k pc (.i2b) nx) (hs : un32 st w8 = some st1) (hN : SW p l e R s m args below meth c Q D dA A b t0 t1 ad0 n0 cb sb xs Ln k nx ls st1 g h) : SW p l e R s m args below meth c Q D dA A b t0 t1 ad0 n0 cb sb xs Ln k pc ls st g h := by
  obtain ⟨n, hd, rfl, hln⟩ := hi
  have hln : n = 1 := by simpa [fln] using hln
  subst hln
  have hx := F.1
  have hb := F.2.1
  obtain ⟨a, st2, rfl, rfl⟩ := un32_inv hs
  exact sw_st hN (fun h1 _ => okV_cons (o_i2b (okV_hd h1)).2 (okV_tl h1)) (fun ad H locs cells slots L h1 _ _ K => lv_i2b hx hb hd (o_i2b (okV_hd h1)).1 K)
theorem sw_i2s (F : Fr p R s m args meth c D dA A b t0 t1 xs Ln k d) {st1 : List KV} (hi : At_ k pc (.i2s) nx) (hs : un32 st w16 = some st1) (hN : SW p l e R s m args below meth c Q D dA A b t0 t1 ad0 n0 cb sb xs Ln k nx ls st1 g h) : SW p l e R s m args below meth c Q D dA A b t0 t1 ad0 n0 cb sb xs Ln k pc ls st g h := by
  obtain ⟨n, hd, rfl, hln⟩ := hi
  have hln : n = 1 := by simpa [fln] using hln
  subst hln
  have hx := F.1
  have hb := F.2.1
  obtain ⟨a, st2, rfl, rfl⟩ := un32_inv hs
  exact sw_st hN (fun h1 _ => okV_cons (o_i2s (okV_hd h1)).2 (okV_tl h1)) (fun ad H locs cells slots L h1 _ _ K => lv_i2s hx hb hd (o_i2s (okV_hd h1)).1 K)
theorem sw_i2l (F : Fr p R s m args meth c D dA A b t0 t1 xs Ln k d) {st1 : List KV} (hi : At_ k pc (.i2l) nx) {a : Int} {st2 : List KV} (h0 : st = xI a :: st2) (h2 : st1 = xL a :: st2) (hN : SW p l e R s m args below meth c Q D dA A b t0 t1 ad0 n0 cb sb xs Ln k nx ls st1 g h) : SW p l e R s m args below meth c Q D dA A b t0 t1 ad0 n0 cb sb xs Ln k pc ls st g h := by
  obtain ⟨n, hd, rfl, hln⟩ := hi
  have hln : n = 1 := by simpa [fln] using hln
  subst hln
  have hx := F.1
  have hb := F.2.1
  subst h0; subst h2
  exact sw_st hN (fun h1 _ => okV_cons (by have := okV_hd h1; unfold okV in32 at this; unfold okV in64; omega) (okV_tl h1)) (fun ad H locs cells slots L h1 _ _ K => lv_i2l hx hb hd (o_i2l (okV_hd h1)) K)
theorem sw_l2i (F : Fr p R s m args meth c D dA A b t0 t1 xs Ln k d) {st1 : List KV} (hi : At_ k pc (.l2i) nx) {a : Int} {st2 : List KV} (h0 : st = xL a :: st2) (h2 : st1 = xI (w32 a) :: st2) (hN : SW p l e R s m args below meth c Q D dA A b t0 t1 ad0 n0 cb sb xs Ln k nx ls st1 g h) : SW p l e R s m args below meth c Q D dA A b t0 t1 ad0 n0 cb sb xs Ln k pc ls st g h := by
  obtain ⟨n, hd, rfl, hln⟩ := hi
  have hln : n = 1 := by simpa [fln] using hln
  subst hln
  have hx := F.1
  have hb := F.2.1
  subst h0; subst h2
  exact sw_st hN (fun h1 _ => okV_cons (w32_in _) (okV_tl h1)) (fun ad H locs cells slots L h1 _ _ K => lv_l2i hx hb hd (o_l2i (okV_hd h1)) K)
theorem sw_lcmp (F : Fr p R s m args meth c D dA A b t0 t1 xs Ln k d) {st1 : List KV} (hi : At_ k pc (.lcmp) nx) {a b2 : Int} {st2 : List KV} (h0 : st = xL b2 :: xL a :: st2) (h2 : st1 = xI (cmp64 a b2) :: st2) (hN : SW p l e R s m args below meth c Q D dA A b t0 t1 ad0 n0 cb sb xs Ln k nx ls st1 g h) : SW p l e R s m args below meth c Q D dA A b t0 t1 ad0 n0 cb sb xs Ln k pc ls st g h := by
  obtain ⟨n, hd, rfl, hln⟩ := hi
  have hln : n = 1 := by simpa [fln] using hln
  subst hln
  have hx := F.1
  have hb := F.2.1
  subst h0; subst h2
  refine sw_st hN (fun h1 _ => okV_cons (o_cmp (okV_hd (okV_tl h1)) (okV_hd h1)).2 (okV_tl (okV_tl h1))) (fun ad H locs cells slots L h1 _ _ K => ?_)
  refine W.lcmp hx hb hd ?_
  rw [(o_cmp (okV_hd (okV_tl h1)) (okV_hd h1)).1]
  exact K
theorem sw_dup (F : Fr p R s m args meth c D dA A b t0 t1 xs Ln k d) {st1 : List KV} (hi : At_ k pc (.dup) nx) {v : KV} {st2 : List KV} (h0 : st = v :: st2) (h2 : st1 = v :: v :: st2) (hv : catN v = 1) (hN : SW p l e R s m args below meth c Q D dA A b t0 t1 ad0 n0 cb sb xs Ln k nx ls st1 g h) : SW p l e R s m args below meth c Q D dA A b t0 t1 ad0 n0 cb sb xs Ln k pc ls st g h := by
  obtain ⟨n, hd, rfl, hln⟩ := hi
  have hln : n = 1 := by simpa [fln] using hln
  subst hln
  have hx := F.1
  have hb := F.2.1
  subst h0; subst h2
  exact sw_st hN (fun h1 _ => okV_cons (okV_hd h1) h1) (fun ad H locs cells slots L h1 _ _ K => lv_dup hx hb hd (by rw [rv_cat]; exact hv) K)
theorem sw_dup2 (F : Fr p R s m args meth c D dA A b t0 t1 xs Ln k d) {st1 : List KV} (hi : At_ k pc (.dup2) nx) {a b2 : Int} {st2 : List KV} (h0 : st = xI b2 :: xR a :: st2) (h2 : st1 = xI b2 :: xR a :: xI b2 :: xR a :: st2) (hN : SW p l e R s m args below meth c Q D dA A b t0 t1 ad0 n0 cb sb xs Ln k nx ls st1 g h) : SW p l e R s m args below meth c Q D dA A b t0 t1 ad0 n0 cb sb xs Ln k pc ls st g h := by
  obtain ⟨n, hd, rfl, hln⟩ := hi
  have hln : n = 1 := by simpa [fln] using hln
  subst hln
  have hx := F.1
  have hb := F.2.1
  subst h0; subst h2
  exact sw_st hN (fun h1 _ => okV_cons (okV_hd h1) (okV_cons (okV_hd (okV_tl h1)) h1)) (fun ad H locs cells slots L h1 _ _ K => lv_dup2_11 hx hb hd (by rw [rv_cat]; rfl) (by rw [rv_cat]; rfl) K)
theorem sw_pop (F : Fr p R s m args meth c D dA A b t0 t1 xs Ln k d) {st1 : List KV} (hi : At_ k pc (.pop) nx) {a : Int} (h0 : st = xI a :: st1) (hN : SW p l e R s m args below meth c Q D dA A b t0 t1 ad0 n0 cb sb xs Ln k nx ls st1 g h) : SW p l e R s m args below meth c Q D dA A b t0 t1 ad0 n0 cb sb xs Ln k pc ls st g h := by
  obtain ⟨n, hd, rfl, hln⟩ := hi
  have hln : n = 1 := by simpa [fln] using hln
  subst hln
  have hx := F.1
  have hb := F.2.1
  subst h0
  exact sw_st hN (fun h1 _ => okV_tl h1) (fun ad H locs cells slots L h1 _ _ K => lv_pop hx hb hd (by rw [rv_cat]; rfl) K)
theorem sw_iconst (F : Fr p R s m args meth c D dA A b t0 t1 xs Ln k d) {v : Int} {st1 : List KV} (hi : At_ k pc (.iconst v) nx) (h2 : st1 = xI (w32 v) :: st) (hN : SW p l e R s m args below meth c Q D dA A b t0 t1 ad0 n0 cb sb xs Ln k nx ls st1 g h) : SW p l e R s m args below meth c Q D dA A b t0 t1 ad0 n0 cb sb xs Ln k pc ls st g h := by
  obtain ⟨n, hd, rfl, hln⟩ := hi
  have hln : n = 1 := by simpa [fln] using hln
  subst hln
  have hx := F.1
  have hb := F.2.1
  subst h2
  exact sw_st hN (fun h1 _ => okV_cons (w32_in _) h1) (fun ad H locs cells slots L h1 _ _ K => lv_iconst hx hb hd (o32_w v).symm K)
theorem sw_bipush (F : Fr p R s m args meth c D dA A b t0 t1 xs Ln k d) {v : Int} {st1 : List KV} (hi : At_ k pc (.bipush v) nx) (h2 : st1 = xI (w8 v) :: st) (hN : SW p l e R s m args below meth c Q D dA A b t0 t1 ad0 n0 cb sb xs Ln k nx ls st1 g h) : SW p l e R s m args below meth c Q D dA A b t0 t1 ad0 n0 cb sb xs Ln k pc ls st g h := by
  obtain ⟨n, hd, rfl, hln⟩ := hi
  have hln : n = 2 := by simpa [fln] using hln
  subst hln
  have hx := F.1
  have hb := F.2.1
  subst h2
  refine sw_st hN (fun h1 _ => okV_cons (by unfold okV in32 w8; omega) h1) (fun ad H locs cells slots L h1 _ _ K => lv_bipush hx hb hd ?_ K)
  apply o32_of
  rw [Int8.toInt_toInt32, Int8.toInt_ofInt]
  have e8 : Int8.size = 256 := rfl
  rw [show Int.bmod v Int8.size = Int.bmod v 256 from rfl, Int.bmod_def]
  unfold w32 w8
  split <;> omega
theorem sw_sipush (F : Fr p R s m args meth c D dA A b t0 t1 xs Ln k d) {v : Int} {st1 : List KV} (hi : At_ k pc (.sipush v) nx) (h2 : st1 = xI (w16 v) :: st) (hN : SW p l e R s m args below meth c Q D dA A b t0 t1 ad0 n0 cb sb xs Ln k nx ls st1 g h) : SW p l e R s m args below meth c Q D dA A b t0 t1 ad0 n0 cb sb xs Ln k pc ls st g h := by
  obtain ⟨n, hd, rfl, hln⟩ := hi
  have hln : n = 3 := by simpa [fln] using hln
  subst hln
  have hx := F.1
  have hb := F.2.1
  subst h2
  refine sw_st hN (fun h1 _ => okV_cons (by unfold okV in32 w16; omega) h1) (fun ad H locs cells slots L h1 _ _ K => lv_sipush hx hb hd ?_ K)
  apply o32_of
  rw [Int16.toInt_toInt32, Int16.toInt_ofInt]
  rw [show Int.bmod v Int16.size = Int.bmod v 65536 from rfl, Int.bmod_def]
  unfold w32 w16
  split <;> omega
theorem sw_lconst (F : Fr p R s m args meth c D dA A b t0 t1 xs Ln k d) {v : Fin 2} {st1 : List KV} (hi : At_ k pc (.lconst v) nx) (h2 : st1 = xL (v.val : Nat) :: st) (hN : SW p l e R s m args below meth c Q D dA A b t0 t1 ad0 n0 cb sb xs Ln k nx ls st1 g h) : SW p l e R s m args below meth c Q D dA A b t0 t1 ad0 n0 cb sb xs Ln k pc ls st g h := by
  obtain ⟨n, hd, rfl, hln⟩ := hi
  have hln : n = 1 := by simpa [fln] using hln
  subst hln
  have hx := F.1
  have hb := F.2.1
  subst h2
  refine sw_st hN (fun h1 _ => okV_cons (by unfold okV in64; have := v.isLt; omega) h1) (fun ad H locs cells slots L h1 _ _ K => lv_lconst hx hb hd rfl K)
theorem sw_iload_n (F : Fr p R s m args meth c D dA A b t0 t1 xs Ln k d) {j : Fin 4} {st1 : List KV} (hi : At_ k pc (.iload_n j) nx) (hs : ldI ls st j.val = some st1) (hN : SW p l e R s m args below meth c Q D dA A b t0 t1 ad0 n0 cb sb xs Ln k nx ls st1 g h) : SW p l e R s m args below meth c Q D dA A b t0 t1 ad0 n0 cb sb xs Ln k pc ls st g h := by
  obtain ⟨n, hd, rfl, hln⟩ := hi
  have hln : n = 1 := by simpa [fln] using hln
  subst hln
  have hx := F.1
  have hb := F.2.1
  obtain ⟨a, hl, rfl⟩ := ldI_inv hs
  exact sw_st hN (fun h1 h2 => okV_cons ((h2 _ (List.mem_of_getElem? hl)).resolve_left (fun q => by cases q)) h1) (fun ad H locs cells slots L h1 _ h3 K => lv_iload_n hx hb hd rfl (h3.2.2 _ _ hl (fun q => by cases q)) K)
theorem sw_iload (F : Fr p R s m args meth c D dA A b t0 t1 xs Ln k d) {j : Nat} {st1 : List KV} (hi : At_ k pc (.iload j) nx) (hs : ldI ls st j = some st1) (hN : SW p l e R s m args below meth c Q D dA A b t0 t1 ad0 n0 cb sb xs Ln k nx ls st1 g h) : SW p l e R s m args below meth c Q D dA A b t0 t1 ad0 n0 cb sb xs Ln k pc ls st g h := by
  obtain ⟨n, hd, rfl, hln⟩ := hi
  have hln : n = 2 := by simpa [fln] using hln
  subst hln
  have hx := F.1
  have hb := F.2.1
  obtain ⟨a, hl, rfl⟩ := ldI_inv hs
  exact sw_st hN (fun h1 h2 => okV_cons ((h2 _ (List.mem_of_getElem? hl)).resolve_left (fun q => by cases q)) h1) (fun ad H locs cells slots L h1 _ h3 K => lv_iload hx hb hd (h3.2.2 _ _ hl (fun q => by cases q)) K)
theorem sw_lload_n (F : Fr p R s m args meth c D dA A b t0 t1 xs Ln k d) {j : Fin 4} {st1 : List KV} (hi : At_ k pc (.lload_n j) nx) (hs : ldL ls st j.val = some st1) (hN : SW p l e R s m args below meth c Q D dA A b t0 t1 ad0 n0 cb sb xs Ln k nx ls st1 g h) : SW p l e R s m args below meth c Q D dA A b t0 t1 ad0 n0 cb sb xs Ln k pc ls st g h := by
  obtain ⟨n, hd, rfl, hln⟩ := hi
  have hln : n = 1 := by simpa [fln] using hln
  subst hln
  have hx := F.1
  have hb := F.2.1
  obtain ⟨a, hl, rfl⟩ := ldL_inv hs
  exact sw_st hN (fun h1 h2 => okV_cons ((h2 _ (List.mem_of_getElem? hl)).resolve_left (fun q => by cases q)) h1) (fun ad H locs cells slots L h1 _ h3 K => lv_lload_n hx hb hd rfl (h3.2.2 _ _ hl (fun q => by cases q)) K)
theorem sw_lload (F : Fr p R s m args meth c D dA A b t0 t1 xs Ln k d) {j : Nat} {st1 : List KV} (hi : At_ k pc (.lload j) nx) (hs : ldL ls st j = some st1) (hN : SW p l e R s m args below meth c Q D dA A b t0 t1 ad0 n0 cb sb xs Ln k nx ls st1 g h) : SW p l e R s m args below meth c Q D dA A b t0 t1 ad0 n0 cb sb xs Ln k pc ls st g h := by
  obtain ⟨n, hd, rfl, hln⟩ := hi
  have hln : n = 2 := by simpa [fln] using hln
  subst hln
  have hx := F.1
  have hb := F.2.1
  obtain ⟨a, hl, rfl⟩ := ldL_inv hs
  exact sw_st hN (fun h1 h2 => okV_cons ((h2 _ (List.mem_of_getElem? hl)).resolve_left (fun q => by cases q)) h1) (fun ad H locs cells slots L h1 _ h3 K => lv_lload hx hb hd (h3.2.2 _ _ hl (fun q => by cases q)) K)
theorem sw_aload_n (F : Fr p R s m args meth c D dA A b t0 t1 xs Ln k d) {j : Fin 4} {st1 : List KV} (hi : At_ k pc (.aload_n j) nx) (hs : ldR ls st j.val = some st1) (hN : SW p l e R s m args below meth c Q D dA A b t0 t1 ad0 n0 cb sb xs Ln k nx ls st1 g h) : SW p l e R s m args below meth c Q D dA A b t0 t1 ad0 n0 cb sb xs Ln k pc ls st g h := by
  obtain ⟨n, hd, rfl, hln⟩ := hi
  have hln : n = 1 := by simpa [fln] using hln
  subst hln
  have hx := F.1
  have hb := F.2.1
  obtain ⟨a, hl, rfl⟩ := ldR_inv hs
  refine sw_st hN (fun h1 h2 => okV_cons ((h2 _ (List.mem_of_getElem? hl)).resolve_left (fun q => by cases q)) h1) (fun ad H locs cells slots L h1 _ h3 K => ?_)
  have hv := h3.2.2 _ _ hl (fun q => by cases q)
  by_cases q : a = -1
  · have e1 : rv ad (xR a) = .null := by simp [rv, q]
    rw [e1] at hv
    rw [List.map_cons, e1] at K
    exact lv_aload_nN hx hb hd rfl hv K
  · have e1 : rv ad (xR a) = .ref (ad a) := by simp [rv, q]
    rw [e1] at hv
    rw [List.map_cons, e1] at K
    exact lv_aload_n hx hb hd rfl hv K
theorem sw_aload (F : Fr p R s m args meth c D dA A b t0 t1 xs Ln k d) {j : Nat} {st1 : List KV} (hi : At_ k pc (.aload j) nx) (hs : ldR ls st j = some st1) (hN : SW p l e R s m args below meth c Q D dA A b t0 t1 ad0 n0 cb sb xs Ln k nx ls st1 g h) : SW p l e R s m args below meth c Q D dA A b t0 t1 ad0 n0 cb sb xs Ln k pc ls st g h := by
  obtain ⟨n, hd, rfl, hln⟩ := hi
  have hln : n = 2 := by simpa [fln] using hln
  subst hln
  have hx := F.1
  have hb := F.2.1
  obtain ⟨a, hl, rfl⟩ := ldR_inv hs
  refine sw_st hN (fun h1 h2 => okV_cons ((h2 _ (List.mem_of_getElem? hl)).resolve_left (fun q => by cases q)) h1) (fun ad H locs cells slots L h1 _ h3 K => ?_)
  have hv := h3.2.2 _ _ hl (fun q => by cases q)
  by_cases q : a = -1
  · have e1 : rv ad (xR a) = .null := by simp [rv, q]
    rw [e1] at hv
    rw [List.map_cons, e1] at K
    exact lv_aloadN hx hb hd hv K
  · have e1 : rv ad (xR a) = .ref (ad a) := by simp [rv, q]
    rw [e1] at hv
    rw [List.map_cons, e1] at K
    exact lv_aload hx hb hd hv K
end SIMPLE
