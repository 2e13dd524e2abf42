/-! THE MACHINE ITSELF. -/
def xpush (t : Nat) (v : Int) : KV := match t with | 1 => xL v | 2 => xR v | _ => xI v
def catN (v : KV) : Nat := match v with | .inr (.inl _) => 2 | _ => 1
def stI (ls : List KV) (j : Nat) (v : KV) : List KV := match j with
  | 0 => ls.set 0 v
  | i + 1 => match ls[i]? with
    | some (.inr (.inl _)) => (ls.set i xU).set (i + 1) v
    | _ => ls.set (i + 1) v
def stL (ls : List KV) (j : Nat) (v : KV) : List KV := (stI ls j v).set (j + 1) xU
/-- the locals of a call: a long has two places -/
def lay : List KV → List KV
  | [] => []
  | .inr (.inl a) :: l => xL a :: xU :: lay l
  | v :: l => v :: lay l
def mkl (as : List KV) (n : Nat) : List KV := lay as ++ List.replicate (n - (lay as).length) xU
def bin32 (st : List KV) (f : Int → Int → Int) : Option (List KV) := match st with | .inl b :: .inl a :: s => some (xI (f a b) :: s) | _ => none
def bin64 (st : List KV) (f : Int → Int → Int) : Option (List KV) := match st with | .inr (.inl b) :: .inr (.inl a) :: s => some (xL (f a b) :: s) | _ => none
def div32 (st : List KV) (f : Int → Int → Int) : Option (List KV) := match st with | .inl b :: .inl a :: s => if b = 0 then none else some (xI (f a b) :: s) | _ => none
def div64 (st : List KV) (f : Int → Int → Int) : Option (List KV) := match st with | .inr (.inl b) :: .inr (.inl a) :: s => if b = 0 then none else some (xL (f a b) :: s) | _ => none
def sh64 (st : List KV) (f : Int → Int → Int) : Option (List KV) := match st with | .inl b :: .inr (.inl a) :: s => if 0 ≤ b ∧ b < 64 then some (xL (f a b) :: s) else none | _ => none
def sh32 (st : List KV) (f : Int → Int → Int) : Option (List KV) := match st with | .inl b :: .inl a :: s => if 0 ≤ b ∧ b < 32 then some (xI (f a b) :: s) else none | _ => none
def un32 (st : List KV) (f : Int → Int) : Option (List KV) := match st with | .inl a :: s => some (xI (f a) :: s) | _ => none
def ldI (ls : List KV) (st : List KV) (j : Nat) : Option (List KV) := match ls[j]? with | some (.inl a) => some (xI a :: st) | _ => none
def ldL (ls : List KV) (st : List KV) (j : Nat) : Option (List KV) := match ls[j]? with | some (.inr (.inl a)) => some (xL a :: st) | _ => none
def ldR (ls : List KV) (st : List KV) (j : Nat) : Option (List KV) := match ls[j]? with | some (.inr (.inr (.inl a))) => some (xR a :: st) | _ => none
def soI (ls : List KV) (st : List KV) (j : Nat) : Option (List KV × List KV) := match st with | .inl a :: s => if j < ls.length then some (stI ls j (xI a), s) else none | _ => none
def soL (ls : List KV) (st : List KV) (j : Nat) : Option (List KV × List KV) := match st with | .inr (.inl a) :: s => if j + 1 < ls.length then some (stL ls j (xL a), s) else none | _ => none
def soR (ls : List KV) (st : List KV) (j : Nat) : Option (List KV × List KV) := match st with | .inr (.inr (.inl a)) :: s => if j < ls.length ∧ 0 ≤ a then some (stI ls j (xR a), s) else none | _ => none
/-- a place read: of an array of kind t -/
def aget (g : KG) (h : KH) (t : Int) (st : List KV) (f : Int → KV) : Option (List KV) := match st with
  | .inl i :: .inr (.inr (.inl a)) :: s => if gK g a = t ∧ 0 ≤ i ∧ i < gL g a then some (f (h a i) :: s) else none
  | _ => none
def cnd (c : Jvm.ClassFile.Cond) (a b : Int) : Bool := match c with | .eq => decide (a = b) | .ne => decide (a ≠ b) | .lt => decide (a < b) | .ge => decide (b ≤ a) | .gt => decide (b < a) | .le => decide (a ≤ b)
abbrev KS : Type := Nat × List KV × List KV × KG × KH
def jmp (pc : Nat) (off : Int) (ls st : List KV) (g : KG) (h : KH) : Option KS := if 0 ≤ (pc : Int) + off then some (((pc : Int) + off).toNat, ls, st, g, h) else none
def nxs (n : Nat) (ls : List KV) (o : Option (List KV)) (g : KG) (h : KH) : Option KS := match o with | some st => some (n, ls, st, g, h) | none => none
def nxl (n : Nat) (o : Option (List KV × List KV)) (g : KG) (h : KH) : Option KS := match o with | some (ls, st) => some (n, ls, st, g, h) | none => none
def akind (t : ArrayType) : Option Int := match t with | .int => some 20 | .long => some 21 | .byte => some 22 | .boolean => some 23 | _ => none
def lksw (ps : List (Int × Int)) (x d : Int) : Int := match ps with | [] => d | (a, b) :: l => if x = a then b else lksw l x d
/-- Math's and the texts' own members, and the copying of arrays -/
def xitr (c : Nat) (st : List KV) (g : KG) (h : KH) : Option (List KV × KH) := match c, st with
  | 0, .inr (.inr (.inl a)) :: s => if 0 ≤ a ∧ a < gN g then some (s, h) else none
  | 1, .inl a :: s => some (xI (if 0 ≤ a then a else w32 (0 - a)) :: s, h)
  | 2, .inl b :: .inl a :: s => some (xI (if a < b then b else a) :: s, h)
  | 3, .inl b :: .inl a :: s => some (xI (if b < a then b else a) :: s, h)
  | 4, .inl n :: .inl j :: .inr (.inr (.inl b)) :: .inl i :: .inr (.inr (.inl a)) :: s => if (gK g a = 20 ∨ gK g a = 21) ∧ gK g b = gK g a ∧ 0 ≤ a ∧ 0 ≤ b ∧ 0 ≤ i ∧ 0 ≤ j ∧ 0 ≤ n ∧ i + n ≤ gL g a ∧ j + n ≤ gL g b then some (s, hcopy h a i b j n) else none
  | 5, .inr (.inr (.inl a)) :: s => if a = -2 ∨ a = -3 then some (xI ((sby a).length : Nat) :: s, h) else none
  | 6, .inl i :: .inr (.inr (.inl a)) :: s => if (a = -2 ∨ a = -3) ∧ 0 ≤ i ∧ i < ((sby a).length : Nat) then some (xI ((sby a).getD i.toNat 0) :: s, h) else none
  | _, _ => none
def stp (k pc : Nat) (ins : Instr) (nx : Nat) (ls st : List KV) (g : KG) (h : KH) : Option KS := match ins with
  | .iconst n => some (nx, ls, xI (w32 n) :: st, g, h)
  | .bipush n => some (nx, ls, xI (w8 n) :: st, g, h)
  | .sipush n => some (nx, ls, xI (w16 n) :: st, g, h)
  | .lconst n => some (nx, ls, xL (n.val : Nat) :: st, g, h)
  | .ldc i => match kst (mcls k) i with | some (0, v) => some (nx, ls, xI v :: st, g, h) | some (2, v) => some (nx, ls, xR v :: st, g, h) | _ => none
  | .ldc_w i => match kst (mcls k) i with | some (0, v) => some (nx, ls, xI v :: st, g, h) | _ => none
  | .ldc2_w i => match kst (mcls k) i with | some (1, v) => some (nx, ls, xL v :: st, g, h) | _ => none
  | .iload_n j => nxs nx ls (ldI ls st j.val) g h
  | .iload j => nxs nx ls (ldI ls st j) g h
  | .lload_n j => nxs nx ls (ldL ls st j.val) g h
  | .lload j => nxs nx ls (ldL ls st j) g h
  | .aload_n j => nxs nx ls (ldR ls st j.val) g h
  | .aload j => nxs nx ls (ldR ls st j) g h
  | .istore_n j => nxl nx (soI ls st j.val) g h
  | .istore j => nxl nx (soI ls st j) g h
  | .lstore_n j => nxl nx (soL ls st j.val) g h
  | .lstore j => nxl nx (soL ls st j) g h
  | .astore_n j => nxl nx (soR ls st j.val) g h
  | .astore j => nxl nx (soR ls st j) g h
  | .iinc j n => match ls[j]? with | some (.inl a) => some (nx, stI ls j (xI (w32 (a + n))), st, g, h) | _ => none
  | .iadd => nxs nx ls (bin32 st fun a b => w32 (a + b)) g h
  | .isub => nxs nx ls (bin32 st fun a b => w32 (a - b)) g h
  | .imul => nxs nx ls (bin32 st fun a b => w32 (a * b)) g h
  | .idiv => nxs nx ls (div32 st fun a b => w32 (Int.tdiv a b)) g h
  | .irem => nxs nx ls (div32 st fun a b => Int.tmod a b) g h
  | .iand => nxs nx ls (bin32 st and32) g h
  | .ior => nxs nx ls (bin32 st or32) g h
  | .ixor => nxs nx ls (bin32 st xor32) g h
  | .ishl => nxs nx ls (sh32 st shl32) g h
  | .ishr => nxs nx ls (sh32 st shr32) g h
  | .iushr => nxs nx ls (sh32 st ushr32) g h
  | .ladd => nxs nx ls (bin64 st fun a b => w64 (a + b)) g h
  | .lsub => nxs nx ls (bin64 st fun a b => w64 (a - b)) g h
  | .lmul => nxs nx ls (bin64 st fun a b => w64 (a * b)) g h
  | .ldiv => nxs nx ls (div64 st fun a b => w64 (Int.tdiv a b)) g h
  | .lrem => nxs nx ls (div64 st fun a b => Int.tmod a b) g h
  | .land => nxs nx ls (bin64 st and64) g h
  | .lor => nxs nx ls (bin64 st or64) g h
  | .lxor => nxs nx ls (bin64 st xor64) g h
  | .lshl => nxs nx ls (sh64 st shl64) g h
  | .lshr => nxs nx ls (sh64 st shr64) g h
  | .i2l => match st with | .inl a :: s => some (nx, ls, xL a :: s, g, h) | _ => none
  | .l2i => match st with | .inr (.inl a) :: s => some (nx, ls, xI (w32 a) :: s, g, h) | _ => none
  | .i2b => nxs nx ls (un32 st w8) g h
  | .i2s => nxs nx ls (un32 st w16) g h
  | .lcmp => match st with | .inr (.inl b) :: .inr (.inl a) :: s => some (nx, ls, xI (cmp64 a b) :: s, g, h) | _ => none
  | .dup => match st with | .inl a :: s => some (nx, ls, xI a :: xI a :: s, g, h) | .inr (.inr (.inl a)) :: s => some (nx, ls, xR a :: xR a :: s, g, h) | _ => none
  | .dup2 => match st with | .inl b :: .inr (.inr (.inl a)) :: s => some (nx, ls, xI b :: xR a :: xI b :: xR a :: s, g, h) | _ => none
  | .pop => match st with | .inl _ :: s => some (nx, ls, s, g, h) | _ => none
  | .ifCond c off => match st with | .inl a :: s => (match jmp pc off ls s g h with | some z => if cnd c a 0 = true then some z else some (nx, ls, s, g, h) | none => none) | _ => none
  | .if_icmp c off => match st with | .inl b :: .inl a :: s => (match jmp pc off ls s g h with | some z => if cnd c a b = true then some z else some (nx, ls, s, g, h) | none => none) | _ => none
  | .goto off => jmp pc off ls st g h
  | .tableswitch d lo hi offs => match st with | .inl a :: s => if a < lo ∨ hi < a then jmp pc d ls s g h else (match offs[(a - lo).toNat]? with | some off => jmp pc off ls s g h | none => none) | _ => none
  | .lookupswitch d ps => match st with | .inl a :: s => if (ps.toList.zip (ps.toList.drop 1)).all (fun q => decide (q.1.1 < q.2.1)) = true then jmp pc (lksw ps.toList a d) ls s g h else none | _ => none
  | .getfield i => match fld (mcls k) i, st with | some (c, j, t), .inr (.inr (.inl a)) :: s => if gK g a = (c : Nat) then some (nx, ls, xpush t (h a (j : Nat)) :: s, g, h) else none | _, _ => none
  | .putfield i => match fld (mcls k) i with
    | some (c, j, t) => match st with
      | .inl v :: .inr (.inr (.inl a)) :: s => if gK g a = (c : Nat) ∧ (t = 0 ∨ (t = 3 ∧ 0 ≤ v ∧ v ≤ 1)) ∧ ffi c j = false then some (nx, ls, s, g, hset h a (j : Nat) v) else none
      | .inr (.inl v) :: .inr (.inr (.inl a)) :: s => if gK g a = (c : Nat) ∧ t = 1 ∧ ffi c j = false then some (nx, ls, s, g, hset h a (j : Nat) v) else none
      | .inr (.inr (.inl v)) :: .inr (.inr (.inl a)) :: s => if gK g a = (c : Nat) ∧ t = 2 ∧ 0 ≤ v ∧ (ffi c j = false ∨ (minit k = true ∧ mcls k = c)) then some (nx, ls, s, g, hset h a (j : Nat) v) else none
      | _ => none
    | none => none
  | .iaload => nxs nx ls (aget g h 20 st xI) g h
  | .laload => nxs nx ls (aget g h 21 st xL) g h
  | .baload => match st with
    | .inl i :: .inr (.inr (.inl a)) :: s => if (gK g a = 22 ∨ gK g a = 23) ∧ 0 ≤ i ∧ i < gL g a then some (nx, ls, xI (h a i) :: s, g, h) else none
    | _ => none
  | .aaload => match st with
    | .inl i :: .inr (.inr (.inl a)) :: s => if (gK g a = 24 ∨ gK g a = 25) ∧ 0 ≤ i ∧ i < gL g a then some (nx, ls, xR (h a i) :: s, g, h) else none
    | _ => none
  | .iastore => match st with
    | .inl v :: .inl i :: .inr (.inr (.inl a)) :: s => if gK g a = 20 ∧ 0 ≤ a ∧ 0 ≤ i ∧ i < gL g a then some (nx, ls, s, g, hset h a i v) else none
    | _ => none
  | .lastore => match st with
    | .inr (.inl v) :: .inl i :: .inr (.inr (.inl a)) :: s => if gK g a = 21 ∧ 0 ≤ i ∧ i < gL g a then some (nx, ls, s, g, hset h a i v) else none
    | _ => none
  | .bastore => match st with
    | .inl v :: .inl i :: .inr (.inr (.inl a)) :: s => if ((gK g a = 22 ∧ -128 ≤ v ∧ v ≤ 127) ∨ (gK g a = 23 ∧ 0 ≤ v ∧ v ≤ 1)) ∧ 0 ≤ i ∧ i < gL g a then some (nx, ls, s, g, hset h a i v) else none
    | _ => none
  | .aastore => match st with
    | .inr (.inr (.inl v)) :: .inl i :: .inr (.inr (.inl a)) :: s => if ((gK g a = 24 ∧ gK g v = 10) ∨ (gK g a = 25 ∧ gK g v = 7)) ∧ 0 ≤ i ∧ i < gL g a then some (nx, ls, s, g, hset h a i v) else none
    | _ => none
  | .arraylength => match st with
    | .inr (.inr (.inl a)) :: s => if 20 ≤ gK g a then some (nx, ls, xI (gL g a) :: s, g, h) else none
    | _ => none
  | .new i => match ncl (mcls k) i with
    | some c => some (nx, ls, xR (gN g) :: st, (gN g + 1, kset (gK g) (gN g) (c : Nat), kset (gL g) (gN g) 0, gC g + 1, gS g + (nfl c : Nat)), hnew h (gN g) (fz c))
    | none => none
  | .newarray t => match akind t, st with
    | some c, .inl n :: s => if 0 ≤ n ∧ n ≤ 60000 then some (nx, ls, xR (gN g) :: s, (gN g + 1, kset (gK g) (gN g) c, kset (gL g) (gN g) n, gC g + 1, gS g + n), hnew h (gN g) (fun _ => 0)) else none
    | _, _ => none
  | .anewarray i => match nar (mcls k) i, st with
    | some c, .inl n :: s => if 0 ≤ n ∧ n ≤ 60000 then some (nx, ls, xR (gN g) :: s, (gN g + 1, kset (gK g) (gN g) (c : Nat), kset (gL g) (gN g) n, gC g + 1, gS g + n), hnew h (gN g) (fun _ => -1)) else none
    | _, _ => none
  | .invokestatic i => match itr (mcls k) i with | some c => if 1 ≤ c ∧ c ≤ 4 ∧ (st.map catN).sum ≤ 300 then (match xitr c st g h with | some (s, h1) => some (nx, ls, s, g, h1) | none => none) else none | none => none
  | .invokevirtual i => match itr (mcls k) i with | some c => if 5 ≤ c ∧ (st.map catN).sum ≤ 8 then (match xitr c st g h with | some (s, h1) => some (nx, ls, s, g, h1) | none => none) else none | none => none
  | .invokespecial i => match itr (mcls k) i with | some 0 => if (st.map catN).sum ≤ 300 then (match xitr 0 st g h with | some (s, h1) => some (nx, ls, s, g, h1) | none => none) else none | _ => none
  | _ => none
/-- the end of a method -/
def rets (k : Nat) (ins : Instr) (st : List KV) : Option (Option KV) := match ins with
  | .ireturn => match st with | [.inl v] => if mret k = 1 ∨ (mret k = 2 ∧ 0 ≤ v ∧ v ≤ 1) then some (some (xI v)) else none | _ => none
  | .lreturn => match st with | [.inr (.inl v)] => if mret k = 3 then some (some (xL v)) else none | _ => none
  | .return_ => match st with | [] => if mret k = 0 then some none else none | _ => none
  | _ => none
/-- a call: kind of the instruction, place in the pool -/
def cal (ins : Instr) : Option (Nat × Nat) := match ins with | .invokevirtual i => some (0, i) | .invokestatic i => some (1, i) | .invokespecial i => some (2, i) | _ => none
/-- a call: the method, its arguments, what is left of the stack -/
def calls (k : Nat) (ins : Instr) (st : List KV) (g : KG) : Option (Nat × List KV × List KV) := match cal ins with
  | none => none
  | some (kd, i) => match mth (mcls k) i with
    | none => none
    | some (k2, n, kd2) => if kd = kd2 ∧ n ≤ st.length ∧ ((st.drop n).map catN).sum ≤ 8 ∧ (lay (st.take n).reverse).length ≤ mloc k2 then
        (if kd = 1 then some (k2, (st.take n).reverse, st.drop n) else match (st.take n).reverse with
          | .inr (.inr (.inl a)) :: _ => if gK g a = (mcls k2 : Nat) then some (k2, (st.take n).reverse, st.drop n) else none
          | _ => none) else none
def exec : Nat → Nat → Nat → Nat → List KV → List KV → KG → KH → Option (Option KV × KG × KH)
  | 0, _, _, _, _, _, _, _ => none
  | f + 1, d, k, pc, ls, st, g, h => match fetch k pc with
    | none => none
    | some (ins, nx) => match rets k ins st with
      | some r => some (r, g, h)
      | none => match calls k ins st g with
        | some (k2, as, rest) => match d with
          | 0 => none
          | e + 1 => match exec f e k2 0 (mkl as (mloc k2)) [] g h with
            | none => none
            | some (r, g1, h1) => exec f (e + 1) k nx ls (r.toList ++ rest) g1 h1
        | none => match stp k pc ins nx ls st g h with
          | none => none
          | some (pc1, ls1, st1, g1, h1) => exec f d k pc1 ls1 st1 g1 h1
