section AXP
/-- a row of a method's table: the instruction, its length, two numbers that it stands for, a constant -/
abbrev ax_I : Type := Instr × Nat × Nat × Nat × Int
/-- behind a step: pc, locals, stack, cells; cells and slots made -/
abbrev ax_N : Type := Nat × List (Nat × Value) × List Value × ax_M × Nat × Nat
def ax_k (x : ax_I) (pc : Nat) (lv : List (Nat × Value)) (st : List Value) (M : ax_M) (v : Value) : Option ax_N := some (pc + x.2.1, lv, v :: st, M, 0, 0)
def ax_const (x : ax_I) (pc : Nat) (lv : List (Nat × Value)) (st : List Value) (M : ax_M) : Option ax_N := match x.1 with
  | .iconst n => ax_k x pc lv st M (.int (Int32.ofInt n))
  | .bipush n => ax_k x pc lv st M (.int (Int8.ofInt n).toInt32)
  | .sipush n => ax_k x pc lv st M (.int (Int16.ofInt n).toInt32)
  | .lconst n => ax_k x pc lv st M (.long (Int64.ofNat (n : Nat)))
  | .ldc _ => ax_k x pc lv st M (.int (Int32.ofInt x.2.2.2.2))
  | .ldc2_w _ => ax_k x pc lv st M (.long (Int64.ofInt x.2.2.2.2))
  | _ => none
def ax_li (x : ax_I) (pc : Nat) (lv : List (Nat × Value)) (st : List Value) (M : ax_M) (i : Nat) : Option ax_N := match lv.lookup i with
  | some (.int v) => ax_k x pc lv st M (.int v)
  | _ => none
def ax_ll (x : ax_I) (pc : Nat) (lv : List (Nat × Value)) (st : List Value) (M : ax_M) (i : Nat) : Option ax_N := match lv.lookup i with
  | some (.long v) => ax_k x pc lv st M (.long v)
  | _ => none
def ax_la (x : ax_I) (pc : Nat) (lv : List (Nat × Value)) (st : List Value) (M : ax_M) (i : Nat) : Option ax_N := match lv.lookup i with
  | some (.ref v) => ax_k x pc lv st M (.ref v)
  | _ => none
def ax_load (x : ax_I) (pc : Nat) (lv : List (Nat × Value)) (st : List Value) (M : ax_M) : Option ax_N := match x.1 with
  | .iload_n i => ax_li x pc lv st M (i : Nat)
  | .iload i => ax_li x pc lv st M i
  | .lload_n i => ax_ll x pc lv st M (i : Nat)
  | .lload i => ax_ll x pc lv st M i
  | .aload_n i => ax_la x pc lv st M (i : Nat)
  | .aload i => ax_la x pc lv st M i
  | _ => none
def ax_put1 (nL : Nat) (x : ax_I) (pc : Nat) (lv : List (Nat × Value)) (st : List Value) (M : ax_M) (i : Nat) (v : Value) : Option ax_N := if i < nL then some (pc + x.2.1, ax_st1 lv i v, st, M, 0, 0) else none
def ax_put2 (nL : Nat) (x : ax_I) (pc : Nat) (lv : List (Nat × Value)) (st : List Value) (M : ax_M) (i : Nat) (v : Value) : Option ax_N := if i + 1 < nL then some (pc + x.2.1, ax_st2 lv i v, st, M, 0, 0) else none
def ax_store (nL : Nat) (x : ax_I) (pc : Nat) (lv : List (Nat × Value)) (st : List Value) (M : ax_M) : Option ax_N := match x.1, st with
  | .istore_n i, .int v :: r => ax_put1 nL x pc lv r M (i : Nat) (.int v)
  | .istore i, .int v :: r => ax_put1 nL x pc lv r M i (.int v)
  | .lstore_n i, .long v :: r => ax_put2 nL x pc lv r M (i : Nat) (.long v)
  | .lstore i, .long v :: r => ax_put2 nL x pc lv r M i (.long v)
  | .astore_n i, .ref v :: r => ax_put1 nL x pc lv r M (i : Nat) (.ref v)
  | .astore i, .ref v :: r => ax_put1 nL x pc lv r M i (.ref v)
  | _, _ => none
def ax_inc (nL : Nat) (x : ax_I) (pc : Nat) (lv : List (Nat × Value)) (st : List Value) (M : ax_M) : Option ax_N := match x.1 with
  | .iinc i n => match lv.lookup i with
    | some (.int v) => ax_put1 nL x pc lv st M i (.int (v + Int32.ofInt n))
    | _ => none
  | _ => none
def ax_ints (x : ax_I) (pc : Nat) (lv : List (Nat × Value)) (st : List Value) (M : ax_M) : Option ax_N := match st with
  | .int b :: .int a :: r => match x.1 with
    | .iadd => ax_k x pc lv r M (.int (a + b))
    | .isub => ax_k x pc lv r M (.int (a - b))
    | .imul => ax_k x pc lv r M (.int (a * b))
    | .iand => ax_k x pc lv r M (.int (a &&& b))
    | .ior => ax_k x pc lv r M (.int (a ||| b))
    | .ixor => ax_k x pc lv r M (.int (a ^^^ b))
    | .idiv => if b = 0 then none else ax_k x pc lv r M (.int (a / b))
    | .irem => if b = 0 then none else ax_k x pc lv r M (.int (a - a / b * b))
    | .ishr => ax_k x pc lv r M (.int (a >>> (b &&& 31)))
    | .iushr => ax_k x pc lv r M (.int (a.toUInt32 >>> (b.toUInt32 &&& Int32.toUInt32 31)).toInt32)
    | _ => none
  | _ => none
def ax_longs (x : ax_I) (pc : Nat) (lv : List (Nat × Value)) (st : List Value) (M : ax_M) : Option ax_N := match st with
  | .long b :: .long a :: r => match x.1 with
    | .ladd => ax_k x pc lv r M (.long (a + b))
    | .lsub => ax_k x pc lv r M (.long (a - b))
    | .land => ax_k x pc lv r M (.long (a &&& b))
    | .lor => ax_k x pc lv r M (.long (a ||| b))
    | .lxor => ax_k x pc lv r M (.long (a ^^^ b))
    | .ldiv => if b = 0 then none else ax_k x pc lv r M (.long (a / b))
    | .lrem => if b = 0 then none else ax_k x pc lv r M (.long (a - a / b * b))
    | .lcmp => ax_k x pc lv r M (.int (lg_cmp a b))
    | _ => none
  | .int b :: .long a :: r => match x.1 with
    | .lshl => ax_k x pc lv r M (.long (a <<< (b.toInt64 &&& 63)))
    | .lshr => ax_k x pc lv r M (.long (a >>> (b.toInt64 &&& 63)))
    | .lushr => ax_k x pc lv r M (.long (a.toUInt64 >>> (b.toInt64.toUInt64 &&& Int64.toUInt64 63)).toInt64)
    | _ => none
  | _ => none
def ax_conv (x : ax_I) (pc : Nat) (lv : List (Nat × Value)) (st : List Value) (M : ax_M) : Option ax_N := match x.1, st with
  | .i2l, .int a :: r => ax_k x pc lv r M (.long a.toInt64)
  | .l2i, .long a :: r => ax_k x pc lv r M (.int a.toInt32)
  | .i2b, .int a :: r => ax_k x pc lv r M (.int a.toInt8.toInt32)
  | .dup, a :: r => if a.category = 1 then ax_k x pc lv (a :: r) M a else none
  | .pop, a :: r => if a.category = 1 then some (pc + x.2.1, lv, r, M, 0, 0) else none
  | .dup2, a :: b :: r => if a.category = 1 ∧ b.category = 1 then some (pc + x.2.1, lv, a :: b :: a :: b :: r, M, 0, 0) else none
  | _, _ => none
/-- where a branch goes: the target, if it is no place below 0 -/
def ax_to (pc : Nat) (off : Int) (lv : List (Nat × Value)) (st : List Value) (M : ax_M) : Option ax_N := if 0 ≤ (pc : Int) + off then some (((pc : Int) + off).toNat, lv, st, M, 0, 0) else none
def ax_br (pc : Nat) (off : Int) (lv : List (Nat × Value)) (st : List Value) (M : ax_M) (t : Bool) : Option ax_N := if t = true then ax_to pc off lv st M else if 0 ≤ (pc : Int) + off then some (pc + 3, lv, st, M, 0, 0) else none
def ax_jump (x : ax_I) (pc : Nat) (lv : List (Nat × Value)) (st : List Value) (M : ax_M) : Option ax_N := match x.1, st with
  | .goto off, st => ax_to pc off lv st M
  | .ifCond .eq off, .int a :: r => ax_br pc off lv r M (decide (a = 0))
  | .ifCond .ne off, .int a :: r => ax_br pc off lv r M (decide (¬ a = 0))
  | .ifCond .lt off, .int a :: r => ax_br pc off lv r M (decide (a < 0))
  | .ifCond .ge off, .int a :: r => ax_br pc off lv r M (decide (0 ≤ a))
  | .ifCond .gt off, .int a :: r => ax_br pc off lv r M (decide (0 < a))
  | .ifCond .le off, .int a :: r => ax_br pc off lv r M (decide (a ≤ 0))
  | _, _ => none
def ax_jump2 (x : ax_I) (pc : Nat) (lv : List (Nat × Value)) (st : List Value) (M : ax_M) : Option ax_N := match x.1, st with
  | .if_icmp .eq off, .int b :: .int a :: r => ax_br pc off lv r M (decide (a = b))
  | .if_icmp .ne off, .int b :: .int a :: r => ax_br pc off lv r M (decide (¬ a = b))
  | .if_icmp .lt off, .int b :: .int a :: r => ax_br pc off lv r M (decide (a < b))
  | .if_icmp .ge off, .int b :: .int a :: r => ax_br pc off lv r M (decide (b ≤ a))
  | .if_icmp .gt off, .int b :: .int a :: r => ax_br pc off lv r M (decide (b < a))
  | .if_icmp .le off, .int b :: .int a :: r => ax_br pc off lv r M (decide (a ≤ b))
  | _, _ => none
def ax_switch (x : ax_I) (pc : Nat) (lv : List (Nat × Value)) (st : List Value) (M : ax_M) : Option ax_N := match x.1, st with
  | .tableswitch dflt lo hi offs, .int a :: r => if a.toInt < lo ∨ hi < a.toInt then ax_to pc dflt lv r M else match offs[(a.toInt - lo).toNat]? with
    | some off => ax_to pc off lv r M
    | none => none
  | .lookupswitch dflt ps, .int a :: r => if (ps.toList.zip (ps.toList.drop 1)).all (fun (a, next) => a.1 < next.1) = true then ax_to pc (Op.lookupswitch.offset ps.toList dflt a.toInt) lv r M else none
  | _, _ => none
def ax_ty (ci : Nat) : Nat → FieldType := match ci with
  | 0 => tyX0 | 1 => tyX1 | 2 => tyX3 | 3 => tyX4 | 4 => tyX5 | 5 => tyX6 | 6 => tyX7 | 7 => tyX8 | 8 => tyX10 | _ => tyX11
def ax_cn (ci : Nat) : Nat := match ci with
  | 0 => 2 | 1 => 7 | 2 => 19 | 3 => 7 | 4 => 3 | 5 => 2 | 6 => 8 | 7 => 16 | 8 => 6 | 9 => 55 | _ => 0
/-- what a new object of a class holds -/
def ax_new (ci : Nat) : List Value := (List.range (ax_cn ci)).map (fun k => defaultValue (ax_ty ci k))
def ax_fit (ty : FieldType) (v : Value) : Bool := match ty, v with
  | .int, .int _ => true
  | .long, .long _ => true
  | .boolean, .int a => decide (a = 0 ∨ a = 1)
  | .object _, .ref _ => true
  | .array _, .ref _ => true
  | _, _ => false
def ax_getf (x : ax_I) (pc : Nat) (lv : List (Nat × Value)) (st : List Value) (M : ax_M) : Option ax_N := match x.1, st with
  | .getfield _, .ref (i + 1) :: r => match M.2.1 (i + 1) with
    | .inr o => if i < M.1 ∧ o.1 = x.2.2.1 then match o.2[x.2.2.2.1]? with
      | some v => ax_k x pc lv r M v
      | none => none
      else none
    | .inl _ => none
  | _, _ => none
def ax_putf (x : ax_I) (pc : Nat) (lv : List (Nat × Value)) (st : List Value) (M : ax_M) : Option ax_N := match x.1, st with
  | .putfield _, v :: .ref (i + 1) :: r => match M.2.1 (i + 1) with
    | .inr o => if i < M.1 ∧ o.1 = x.2.2.1 ∧ x.2.2.2.1 < o.2.length ∧ ax_fit (ax_ty o.1 x.2.2.2.1) v = true then some (pc + x.2.1, lv, r, (M.1, ax_up M.2.1 (i + 1) (.inr (o.1, o.2.set x.2.2.2.1 v)), M.2.2), 0, 0) else none
    | .inl _ => none
  | _, _ => none
def ax_aload (L : Nat) (xs : Nat → Int32) (x : ax_I) (pc : Nat) (lv : List (Nat × Value)) (st : List Value) (M : ax_M) : Option ax_N := match x.1, st with
  | .iaload, .int j :: .ref 0 :: r => if j < 0 ∨ L ≤ j.toNatClampNeg then none else ax_k x pc lv r M (.int (xs j.toNatClampNeg))
  | .iaload, .int j :: .ref (i + 1) :: r => match M.2.1 (i + 1) with
    | .inl (1, n, .inl f) => if i < M.1 then (if j < 0 ∨ n ≤ j.toNatClampNeg then none else ax_k x pc lv r M (.int (f j.toNatClampNeg))) else none
    | _ => none
  | .baload, .int j :: .ref (i + 1) :: r => match M.2.1 (i + 1) with
    | .inl (0, n, .inl f) => if i < M.1 then (if j < 0 ∨ n ≤ j.toNatClampNeg then none else ax_k x pc lv r M (.int (f j.toNatClampNeg))) else none
    | .inl (3, n, .inl f) => if i < M.1 then (if j < 0 ∨ n ≤ j.toNatClampNeg then none else ax_k x pc lv r M (.int (f j.toNatClampNeg))) else none
    | _ => none
  | .laload, .int j :: .ref (i + 1) :: r => match M.2.1 (i + 1) with
    | .inl (2, n, .inr (.inl f)) => if i < M.1 then (if j < 0 ∨ n ≤ j.toNatClampNeg then none else ax_k x pc lv r M (.long (f j.toNatClampNeg))) else none
    | _ => none
  | .arraylength, .ref 0 :: r => ax_k x pc lv r M (.int (Int32.ofNat L))
  | .arraylength, .ref (i + 1) :: r => match M.2.1 (i + 1) with
    | .inl a => if i < M.1 ∧ a.1 < 4 then ax_k x pc lv r M (.int (Int32.ofNat a.2.1)) else none
    | _ => none
  | _, _ => none
def ax_astore (x : ax_I) (pc : Nat) (lv : List (Nat × Value)) (st : List Value) (M : ax_M) : Option ax_N := match x.1, st with
  | .iastore, .int v :: .int j :: .ref (i + 1) :: r => match M.2.1 (i + 1) with
    | .inl (1, n, .inl f) => if i < M.1 then (if j < 0 ∨ n ≤ j.toNatClampNeg then none else some (pc + x.2.1, lv, r, (M.1, ax_up M.2.1 (i + 1) (.inl (1, n, .inl (upd f j.toNatClampNeg v))), M.2.2), 0, 0)) else none
    | _ => none
  | .bastore, .int v :: .int j :: .ref (i + 1) :: r => match M.2.1 (i + 1) with
    | .inl (0, n, .inl f) => if i < M.1 then (if j < 0 ∨ n ≤ j.toNatClampNeg then none else some (pc + x.2.1, lv, r, (M.1, ax_up M.2.1 (i + 1) (.inl (0, n, .inl (upd f j.toNatClampNeg (vp_nar .byte v)))), M.2.2), 0, 0)) else none
    | .inl (3, n, .inl f) => if i < M.1 then (if j < 0 ∨ n ≤ j.toNatClampNeg then none else some (pc + x.2.1, lv, r, (M.1, ax_up M.2.1 (i + 1) (.inl (3, n, .inl (upd f j.toNatClampNeg (vp_nar .boolean v)))), M.2.2), 0, 0)) else none
    | _ => none
  | .lastore, .long v :: .int j :: .ref (i + 1) :: r => match M.2.1 (i + 1) with
    | .inl (2, n, .inr (.inl f)) => if i < M.1 then (if j < 0 ∨ n ≤ j.toNatClampNeg then none else some (pc + x.2.1, lv, r, (M.1, ax_up M.2.1 (i + 1) (.inl (2, n, .inr (.inl (vp_updL f j.toNatClampNeg v)))), M.2.2), 0, 0)) else none
    | _ => none
  | _, _ => none
/-- a new array's number of its type, and what it holds -/
def ax_arr (t : ArrayType) (n : Nat) : Option (Nat × vp_A) := match t with
  | .byte => some (0, n, .inl (fun _ => 0))
  | .int => some (1, n, .inl (fun _ => 0))
  | .long => some (2, n, .inr (.inl (fun _ => 0)))
  | .boolean => some (3, n, .inl (fun _ => 0))
  | _ => none
def ax_make (x : ax_I) (pc : Nat) (lv : List (Nat × Value)) (st : List Value) (M : ax_M) : Option ax_N := match x.1, st with
  | .new _, st => if M.2.2 = true ∧ x.2.2.1 < 10 then some (pc + x.2.1, lv, .ref (M.1 + 1) :: st, (M.1 + 1, ax_up M.2.1 (M.1 + 1) (.inr (x.2.2.1, ax_new x.2.2.1)), true), 1, ax_cn x.2.2.1) else none
  | .newarray t, .int n :: r => if M.2.2 = true ∧ ¬ n < 0 ∧ n.toNatClampNeg * 8 ≤ 536870912 then match ax_arr t n.toNatClampNeg with
    | some a => some (pc + x.2.1, lv, .ref (M.1 + 1) :: r, (M.1 + 1, ax_up M.2.1 (M.1 + 1) (.inl a), true), 1, n.toNatClampNeg)
    | none => none
    else none
  | _, _ => none
/-- Object's constructor; Math.max of two ints -/
def ax_lib (x : ax_I) (pc : Nat) (lv : List (Nat × Value)) (st : List Value) (M : ax_M) : Option ax_N := match x.1, st with
  | .invokespecial _, .ref _ :: r => if x.2.2.1 = 901 ∧ (r.map fun v => v.category).sum ≤ 20 then some (pc + x.2.1, lv, r, M, 0, 0) else none
  | .invokestatic _, .int b :: .int a :: r => if x.2.2.1 = 900 ∧ (r.map fun v => v.category).sum ≤ 20 then some (pc + x.2.1, lv, .int (if a < b then b else a) :: r, M, 0, 0) else none
  | _, _ => none
/-- one instruction that is no call, no return, no throw -/
def ax_s (L : Nat) (xs : Nat → Int32) (nL : Nat) (x : ax_I) (pc : Nat) (lv : List (Nat × Value)) (st : List Value) (M : ax_M) : Option ax_N :=
  ax_const x pc lv st M <|> ax_load x pc lv st M <|> ax_store nL x pc lv st M <|> ax_inc nL x pc lv st M <|> ax_ints x pc lv st M <|> ax_longs x pc lv st M <|> ax_conv x pc lv st M <|> ax_jump x pc lv st M <|> ax_jump2 x pc lv st M <|> ax_switch x pc lv st M <|>
    ax_getf x pc lv st M <|> ax_putf x pc lv st M <|> ax_aload L xs x pc lv st M <|> ax_astore x pc lv st M <|> ax_make x pc lv st M <|> ax_lib x pc lv st M
end AXP
