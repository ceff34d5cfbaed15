/-! ===== the small machine: memory ===== -/
/-- a cell: its kind (0..8 an object of that class of vwCl, 9 int[], 10 boolean[], 11 Camp[], 12 int[][]), how many fields or places, its references -/
abbrev jm_C : Type := Nat × Nat × List (Option Nat)
/-- the cells, all ints (cell, place), the script's length and 1 (0: no script) -/
abbrev jm_M : Type := List jm_C × (Nat → Nat → Int32) × Nat
/-- two arrays that lie outside: the script, the static one -/
abbrev jx_S : Nat := 1000000
abbrev jx_W : Nat := 1000001
def jm_in (i : Int32) (n : Nat) : Bool := decide (¬ (i < 0 ∨ n ≤ i.toNatClampNeg))
def jm_upd (S : Nat → Nat → Int32) (a k : Nat) (x : Int32) : Nat → Nat → Int32 := fun o => if o = a then upd (S a) k x else S o
def jm_row (S : Nat → Nat → Int32) (a : Nat) (f : Nat → Int32) : Nat → Nat → Int32 := fun o => if o = a then f else S o
/-- the length of an int array -/
def jm_al (M : jm_M) (a : Nat) : Option Nat := if a = jx_S then (if M.2.2 = 0 then none else some (M.2.2 - 1)) else if a = jx_W then some 6 else match M.1[a]? with
  | some (c, n, _) => if c = 9 then some n else none
  | none => none
/-- the length of any array -/
def jm_ln (M : jm_M) (a : Nat) : Option Nat := if a = jx_S then (if M.2.2 = 0 then none else some (M.2.2 - 1)) else if a = jx_W then some 6 else match M.1[a]? with
  | some (c, n, _) => if 9 ≤ c ∧ c ≤ 12 then some n else none
  | none => none
/-- the length of an int array that may be written -/
def jm_wl (M : jm_M) (a : Nat) (k : Nat) : Option Nat := match M.1[a]? with
  | some (c, n, _) => if c = k then some n else none
  | none => none
def jm_isI (c k : Nat) : Bool := (jm_ft.getD c []).getD k false
/-- the class of an object, its references -/
def jm_ob (M : jm_M) (o c : Nat) : Option (List (Option Nat)) := match M.1[o]? with
  | some (c', _, rs) => if c' = c ∧ c < 9 then some rs else none
  | none => none
def jm_fld (M : jm_M) (o c k : Nat) : Option Value := match jm_ob M o c with
  | none => none
  | some rs => if jm_isI c k = true then some (.int (M.2.1 o k)) else match rs[k]? with
    | some (some r) => some (.ref r)
    | _ => none
/-! ===== the small machine: methods ===== -/
def jm_me (j : Nat) : jm_R := jm_mt.getD j (⟨"", "", ""⟩, ⟨#[]⟩, 0, none, 0, 0, false)
def jm_y (j : Nat) : MethodName := (jm_me j).1
def jm_code (j : Nat) : ByteArray := (jm_me j).2.1
def jm_ml (j : Nat) : Nat := (jm_me j).2.2.1
def jm_rt (j : Nat) : Option FieldType := (jm_me j).2.2.2.1
def jm_own (j : Nat) : Nat := (jm_me j).2.2.2.2.1
def jm_np (j : Nat) : Nat := (jm_me j).2.2.2.2.2.1
def jm_sc (j : Nat) : Bool := (jm_me j).2.2.2.2.2.2
def jm_fetch (j pc : Nat) : Option (Instr × Nat) := (jm_ins.getD j []).lookup pc
def jm_kl (v : Value) : Value := match v with
  | .long _ => .null
  | .double _ => .null
  | w => w
def jm_kx (loc : List Value) (x : Nat) : List Value := match x with
  | 0 => loc
  | y + 1 => loc.modify y jm_kl
def jm_st1 (loc : List Value) (x : Nat) (v : Value) : Option (List Value) := if x < loc.length then some ((jm_kx loc x).set x v) else none
def jm_st2 (loc : List Value) (x : Nat) (v : Value) : Option (List Value) := if x + 1 < loc.length then some (((jm_kx loc x).set x v).set (x + 1) .null) else none
abbrev jm_P : Type := Nat × List Value × List Value
def jm_bi (f : Int32 → Int32 → Int32) (pc : Nat) (loc stk : List Value) : Option jm_P := match stk with
  | .int y :: .int x :: st => some (pc + 1, loc, .int (f x y) :: st)
  | _ => none
def jm_bl (f : Int64 → Int64 → Int64) (pc : Nat) (loc stk : List Value) : Option jm_P := match stk with
  | .long y :: .long x :: st => some (pc + 1, loc, .long (f x y) :: st)
  | _ => none
def jm_di (f : Int32 → Int32 → Int32) (pc : Nat) (loc stk : List Value) : Option jm_P := match stk with
  | .int y :: .int x :: st => if y = 0 then none else some (pc + 1, loc, .int (f x y) :: st)
  | _ => none
def jm_dl (f : Int64 → Int64 → Int64) (pc : Nat) (loc stk : List Value) : Option jm_P := match stk with
  | .long y :: .long x :: st => if y = 0 then none else some (pc + 1, loc, .long (f x y) :: st)
  | _ => none
def jm_cnd (c : ClassFile.Cond) (x y : Int32) : Bool := match c with
  | .eq => decide (x = y)
  | .ne => decide (¬ x = y)
  | .lt => decide (x < y)
  | .ge => decide (y ≤ x)
  | .gt => decide (y < x)
  | .le => decide (x ≤ y)
def jm_jp (pc : Nat) (off : Int) (loc stk : List Value) : Option jm_P := if 0 ≤ (pc : Int) + off then some (((pc : Int) + off).toNat, loc, stk) else none
def jm_br (b : Bool) (pc : Nat) (off : Int) (loc stk : List Value) : Option jm_P := if 0 ≤ (pc : Int) + off then some (if b = true then ((pc : Int) + off).toNat else pc + 3, loc, stk) else none
def jm_ldi (pc x : Nat) (loc stk : List Value) : Option jm_P := match loc[x]? with
  | some (.int v) => some (pc, loc, .int v :: stk)
  | _ => none
def jm_ldl (pc x : Nat) (loc stk : List Value) : Option jm_P := match loc[x]? with
  | some (.long v) => some (pc, loc, .long v :: stk)
  | _ => none
def jm_lda (pc x : Nat) (loc stk : List Value) : Option jm_P := match loc[x]? with
  | some (.ref v) => some (pc, loc, .ref v :: stk)
  | _ => none
def jm_sti (pc x : Nat) (loc stk : List Value) : Option jm_P := match stk with
  | .int v :: st => (jm_st1 loc x (.int v)).map (fun l => (pc, l, st))
  | _ => none
def jm_sta (pc x : Nat) (loc stk : List Value) : Option jm_P := match stk with
  | .ref v :: st => (jm_st1 loc x (.ref v)).map (fun l => (pc, l, st))
  | _ => none
def jm_stl (pc x : Nat) (loc stk : List Value) : Option jm_P := match stk with
  | .long v :: st => (jm_st2 loc x (.long v)).map (fun l => (pc, l, st))
  | _ => none
/-- instructions that leave the memory alone -/
def jm_pure (j pc : Nat) (i : Instr) (loc stk : List Value) : Option jm_P := match i with
  | .iconst z => some (pc + 1, loc, .int (Int32.ofInt z) :: stk)
  | .bipush z => some (pc + 2, loc, .int (Int8.ofInt z).toInt32 :: stk)
  | .sipush z => some (pc + 3, loc, .int (Int16.ofInt z).toInt32 :: stk)
  | .lconst z => some (pc + 1, loc, .long (Int64.ofNat (z : Nat)) :: stk)
  | .ldc x => (jm_kT.lookup (jm_own j, x)).map (fun v => (pc + 2, loc, .int v.1 :: stk))
  | .ldc_w x => (jm_kT.lookup (jm_own j, x)).map (fun v => (pc + 3, loc, .int v.1 :: stk))
  | .ldc2_w x => (jm_lT.lookup (jm_own j, x)).map (fun v => (pc + 3, loc, .long v.1 :: stk))
  | .iload_n x => jm_ldi (pc + 1) x loc stk
  | .iload x => jm_ldi (pc + 2) x loc stk
  | .lload_n x => jm_ldl (pc + 1) x loc stk
  | .lload x => jm_ldl (pc + 2) x loc stk
  | .aload_n x => jm_lda (pc + 1) x loc stk
  | .aload x => jm_lda (pc + 2) x loc stk
  | .istore_n x => jm_sti (pc + 1) x loc stk
  | .istore x => jm_sti (pc + 2) x loc stk
  | .lstore_n x => jm_stl (pc + 1) x loc stk
  | .lstore x => jm_stl (pc + 2) x loc stk
  | .astore_n x => jm_sta (pc + 1) x loc stk
  | .astore x => jm_sta (pc + 2) x loc stk
  | .iinc x z => match loc[x]? with
    | some (.int v) => (jm_st1 loc x (.int (v + Int32.ofInt z))).map (fun l => (pc + 3, l, stk))
    | _ => none
  | .iadd => jm_bi (fun x y => x + y) pc loc stk
  | .isub => jm_bi (fun x y => x - y) pc loc stk
  | .imul => jm_bi (fun x y => x * y) pc loc stk
  | .iand => jm_bi (fun x y => x &&& y) pc loc stk
  | .ior => jm_bi (fun x y => x ||| y) pc loc stk
  | .ixor => jm_bi (fun x y => x ^^^ y) pc loc stk
  | .ishl => jm_bi (fun x y => x <<< (y &&& 31)) pc loc stk
  | .ishr => jm_bi (fun x y => x >>> (y &&& 31)) pc loc stk
  | .iushr => jm_bi (fun x y => (x.toUInt32 >>> (y.toUInt32 &&& Int32.toUInt32 31)).toInt32) pc loc stk
  | .idiv => jm_di (fun x y => x / y) pc loc stk
  | .irem => jm_di (fun x y => x - x / y * y) pc loc stk
  | .ladd => jm_bl (fun x y => x + y) pc loc stk
  | .lsub => jm_bl (fun x y => x - y) pc loc stk
  | .lmul => jm_bl (fun x y => x * y) pc loc stk
  | .ldiv => jm_dl (fun x y => x / y) pc loc stk
  | .lrem => jm_dl (fun x y => x - x / y * y) pc loc stk
  | .ineg => match stk with
    | .int x :: st => some (pc + 1, loc, .int (-x) :: st)
    | _ => none
  | .i2l => match stk with
    | .int x :: st => some (pc + 1, loc, .long x.toInt64 :: st)
    | _ => none
  | .l2i => match stk with
    | .long x :: st => some (pc + 1, loc, .int x.toInt32 :: st)
    | _ => none
  | .i2b => match stk with
    | .int x :: st => some (pc + 1, loc, .int x.toInt8.toInt32 :: st)
    | _ => none
  | .i2s => match stk with
    | .int x :: st => some (pc + 1, loc, .int x.toInt16.toInt32 :: st)
    | _ => none
  | .lcmp => match stk with
    | .long y :: .long x :: st => some (pc + 1, loc, .int (lg_cmp x y) :: st)
    | _ => none
  | .dup => match stk with
    | .int x :: st => some (pc + 1, loc, .int x :: .int x :: st)
    | .ref x :: st => some (pc + 1, loc, .ref x :: .ref x :: st)
    | _ => none
  | .dup2 => match stk with
    | .int x :: .ref y :: st => some (pc + 1, loc, .int x :: .ref y :: .int x :: .ref y :: st)
    | _ => none
  | .ifCond c off => match stk with
    | .int x :: st => jm_br (jm_cnd c x 0) pc off loc st
    | _ => none
  | .if_icmp c off => match stk with
    | .int y :: .int x :: st => jm_br (jm_cnd c x y) pc off loc st
    | _ => none
  | .goto off => jm_jp pc off loc stk
  | .tableswitch d lo hi offs => match stk with
    | .int x :: st => if x.toInt < lo ∨ hi < x.toInt then jm_jp pc d loc st else match offs[(x.toInt - lo).toNat]? with
      | some o => jm_jp pc o loc st
      | none => none
    | _ => none
  | .lookupswitch d ps => match stk with
    | .int x :: st => if (ps.toList.zip (ps.toList.drop 1)).all (fun (a, next) => a.1 < next.1) = true then jm_jp pc (Op.lookupswitch.offset ps.toList d x.toInt) loc st else none
    | _ => none
  | _ => none
def jm_cs (st : List Value) : Nat := (st.map (fun v => v.category)).sum
def jm_N (c : Nat) : Nat := (jm_ft.getD c []).length
def jm_zero (S : Nat → Nat → Int32) (n : Nat) : Nat → Nat → Int32 := fun o => if n ≤ o ∧ o < jx_S then (fun _ => 0) else S o
/-- instructions on the memory -/
def jm_heap (j pc : Nat) (i : Instr) (stk : List Value) (M : jm_M) : Option (Nat × List Value × jm_M) := match i with
  | .getfield x => match jm_fT.lookup (jm_own j, x) with
    | some (c, k, _) => match stk with
      | .ref o :: st => (jm_fld M o c k).map (fun v => (pc + 3, v :: st, M))
      | _ => none
    | none => none
  | .putfield x => match jm_fT.lookup (jm_own j, x) with
    | some (c, k, _) => match stk with
      | .int v :: .ref o :: st => if (jm_ob M o c).isSome = true ∧ jm_isI c k = true then some (pc + 3, st, (M.1, jm_upd M.2.1 o k v, M.2.2)) else none
      | .ref r :: .ref o :: st => match M.1[o]? with
        | some (c', n, rs) => if c' = c ∧ c < 9 ∧ jm_isI c k = false ∧ k < jm_N c ∧ rs.length = jm_N c ∧ jm_own j = c ∧ (jm_y j).name = "<init>" then some (pc + 3, st, (M.1.set o (c, n, rs.set k (some r)), M.2)) else none
        | none => none
      | _ => none
    | none => none
  | .getstatic x => if (jm_gT.lookup (jm_own j, x)).isSome = true then some (pc + 3, .ref jx_W :: stk, M) else none
  | .iaload => match stk with
    | .int i :: .ref a :: st => match jm_al M a with
      | some n => if jm_in i n = true then some (pc + 1, .int (M.2.1 a i.toNatClampNeg) :: st, M) else none
      | none => none
    | _ => none
  | .iastore => match stk with
    | .int x :: .int i :: .ref a :: st => match jm_wl M a 9 with
      | some n => if jm_in i n = true then some (pc + 1, st, (M.1, jm_upd M.2.1 a i.toNatClampNeg x, M.2.2)) else none
      | none => none
    | _ => none
  | .baload => match stk with
    | .int i :: .ref a :: st => match jm_wl M a 10 with
      | some n => if jm_in i n = true then some (pc + 1, .int (M.2.1 a i.toNatClampNeg) :: st, M) else none
      | none => none
    | _ => none
  | .bastore => match stk with
    | .int x :: .int i :: .ref a :: st => match jm_wl M a 10 with
      | some n => if jm_in i n = true then some (pc + 1, st, (M.1, jm_upd M.2.1 a i.toNatClampNeg (vp_nar .boolean x), M.2.2)) else none
      | none => none
    | _ => none
  | .aaload => match stk with
    | .int i :: .ref a :: st => match M.1[a]? with
      | some (c, n, rs) => if (c = 11 ∨ c = 12) ∧ jm_in i n = true then match rs[i.toNatClampNeg]? with
        | some (some r) => some (pc + 1, .ref r :: st, M)
        | _ => none
        else none
      | none => none
    | _ => none
  | .aastore => match stk with
    | .ref v :: .int i :: .ref a :: st => match M.1[a]? with
      | some (c, n, rs) => if c = 11 ∧ jm_in i n = true ∧ rs.length = n ∧ (jm_ob M v 2).isSome = true then some (pc + 1, st, (M.1.set a (c, n, rs.set i.toNatClampNeg (some v)), M.2)) else none
      | none => none
    | _ => none
  | .arraylength => match stk with
    | .ref a :: st => (jm_ln M a).map (fun n => (pc + 1, .int (Int32.ofNat n) :: st, M))
    | _ => none
  | .new x => match jm_cT.lookup (jm_own j, x) with
    | some (c, _) => if c < 9 ∧ M.1.length < jx_S then some (pc + 3, .ref M.1.length :: stk, (M.1 ++ [(c, jm_N c, List.replicate (jm_N c) none)], jm_zero M.2.1 M.1.length, M.2.2)) else none
    | none => none
  | .newarray t => match stk with
    | .int n :: st => if (t = .int ∨ t = .boolean) ∧ ¬ n < 0 ∧ n.toNatClampNeg ≤ 100000 ∧ M.1.length < jx_S then some (pc + 2, .ref M.1.length :: st, (M.1 ++ [(if t = .int then 9 else 10, n.toNatClampNeg, [])], jm_zero M.2.1 M.1.length, M.2.2)) else none
    | _ => none
  | .anewarray x => match stk with
    | .int n :: st => if (jm_cT.lookup (jm_own j, x)).map (fun q => q.1) = some 2 ∧ ¬ n < 0 ∧ n.toNatClampNeg ≤ 100000 ∧ M.1.length < jx_S then some (pc + 3, .ref M.1.length :: st, (M.1 ++ [(11, n.toNatClampNeg, List.replicate n.toNatClampNeg none)], jm_zero M.2.1 M.1.length, M.2.2)) else none
    | _ => none
  | .multianewarray x dm => match stk with
    | .int k :: .int n :: st => if dm = 2 ∧ (jm_cT.lookup (jm_own j, x)).map (fun q => q.1) = some 12 ∧ ¬ n < 0 ∧ ¬ k < 0 ∧ n.toNatClampNeg ≤ 100000 ∧ k.toNatClampNeg ≤ 100000 ∧ M.1.length + n.toNatClampNeg < jx_S then some (pc + 4, .ref M.1.length :: st, (M.1 ++ ((12, n.toNatClampNeg, (List.range n.toNatClampNeg).map (fun i => some (M.1.length + 1 + i))) :: List.replicate n.toNatClampNeg (9, k.toNatClampNeg, [])), jm_zero M.2.1 M.1.length, M.2.2)) else none
    | _ => none
  | .invokestatic x => if (jm_cpT.lookup (jm_own j, x)).isSome = true then match stk with
      | .int n :: .int dp :: .ref a :: .int sp :: .ref b :: st => match jm_wl M b 9, jm_wl M a 9 with
        | some nb, some na => if ¬ sp < 0 ∧ ¬ dp < 0 ∧ ¬ n < 0 ∧ sp.toNatClampNeg + n.toNatClampNeg ≤ nb ∧ dp.toNatClampNeg + n.toNatClampNeg ≤ na ∧ jm_cs st ≤ 8 then some (pc + 3, st, (M.1, jm_row M.2.1 a (va_cpy (M.2.1 b) (M.2.1 a) sp.toNatClampNeg dp.toNatClampNeg n.toNatClampNeg), M.2.2)) else none
        | _, _ => none
      | _ => none
    else if (jm_mxT.lookup (jm_own j, x)).isSome = true then match stk with
      | .int y :: .int x :: st => if jm_cs st ≤ 8 then some (pc + 3, .int (if x < y then y else x) :: st, M) else none
      | _ => none
    else if (jm_mnT.lookup (jm_own j, x)).isSome = true then match stk with
      | .int y :: .int x :: st => if jm_cs st ≤ 8 then some (pc + 3, .int (if y < x then y else x) :: st, M) else none
      | _ => none
    else none
  | .invokespecial x => if (jm_oiT.lookup (jm_own j, x)).isSome = true then match stk with
      | .ref o :: st => if jm_cs st ≤ 8 then some (pc + 3, st, M) else none
      | _ => none
    else none
  | _ => none
def jm_ret (j : Nat) (i : Instr) (stk : List Value) : Option (Option Value) := match i with
  | .ireturn => match stk with
    | [.int x] => if jm_rt j = some .int ∨ (jm_rt j = some .boolean ∧ (x = 0 ∨ x = 1)) then some (some (.int x)) else none
    | _ => none
  | .lreturn => match stk with
    | [.long x] => if jm_rt j = some .long then some (some (.long x)) else none
    | _ => none
  | .areturn => match stk with
    | [.ref x] => if jm_rt j = some (.object "JingleLaws$Camp") then some (some (.ref x)) else none
    | _ => none
  | .return_ => match stk with
    | [] => if jm_rt j = none then some none else none
    | _ => none
  | _ => none
/-- a call: the method, its arguments, the rest of the stack -/
def jm_call (j : Nat) (i : Instr) (stk : List Value) (M : jm_M) : Option (Nat × List Value × List Value) := match i with
  | .invokestatic x => match jm_mT.lookup (jm_own j, x) with
    | some (t, _, _) => if jm_sc t = true ∧ jm_np t ≤ stk.length ∧ jm_cs (stk.drop (jm_np t)) ≤ 8 then some (t, (stk.take (jm_np t)).reverse, stk.drop (jm_np t)) else none
    | none => none
  | .invokevirtual x => match jm_mT.lookup (jm_own j, x) with
    | some (t, _, _) => if jm_sc t = false ∧ jm_np t ≤ stk.length then match stk.drop (jm_np t) with
      | .ref o :: st => if (jm_ob M o (jm_own t)).isSome = true ∧ jm_cs st ≤ 8 ∧ (jm_y t).name ≠ "<init>" then some (t, .ref o :: (stk.take (jm_np t)).reverse, st) else none
      | _ => none
      else none
    | none => none
  | .invokespecial x => match jm_mT.lookup (jm_own j, x) with
    | some (t, _, _) => if jm_sc t = false ∧ jm_np t ≤ stk.length then match stk.drop (jm_np t) with
      | .ref o :: st => if jm_cs st ≤ 8 ∧ (jm_y t).name = "<init>" then some (t, .ref o :: (stk.take (jm_np t)).reverse, st) else none
      | _ => none
      else none
    | none => none
  | _ => none
def jm_sl (vs : List Value) : List Value := vs.flatMap (fun v => if v.category = 2 then [v, .null] else [v])
def jm_ent (t : Nat) (vs : List Value) : Option (List Value) := if (jm_sl vs).length ≤ jm_ml t then some (jm_sl vs ++ List.replicate (jm_ml t - (jm_sl vs).length) .null) else none
/-- fuel, depth, method, place, locals, stack, memory: the answer and the memory behind it -/
def jm_run : Nat → Nat → Nat → Nat → List Value → List Value → jm_M → Option (Option Value × jm_M)
  | 0, _, _, _, _, _, _ => none
  | f + 1, d, j, pc, loc, stk, M => match jm_fetch j pc with
    | none => none
    | some (i, _) => match jm_pure j pc i loc stk with
      | some (pc', loc', stk') => jm_run f d j pc' loc' stk' M
      | none => match jm_heap j pc i stk M with
        | some (pc', stk', M') => jm_run f d j pc' loc stk' M'
        | none => match jm_ret j i stk with
          | some r => some (r, M)
          | none => match jm_call j i stk M with
            | none => none
            | some (t, as, rest) => match d with
              | 0 => none
              | d' + 1 => match jm_ent t as with
                | none => none
                | some l0 => match jm_run f d' t 0 l0 [] M with
                  | none => none
                  | some (r, M') => jm_run f (d' + 1) j (pc + 3) loc (r.toList ++ rest) M'
