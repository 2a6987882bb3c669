/-! A small interpreter of decoded instructions. References are numbers of cells; .retAddr stands for the law's script, which is no cell of ours. -/
abbrev jC : Type := (Nat × vp_A) ⊕ (Nat × List Value)
abbrev jL : Type := List (Nat × Value)
def jl (lv : jL) (i : Nat) : Option Value := (lv.find? (fun q => q.1 == i)).map (fun q => q.2)
def js1 (lv : jL) (i : Nat) (v : Value) : jL := (i, v) :: lv.filter (fun q => !(q.1 == i) && !(q.1 + 1 == i && q.2.category == 2))
def js2 (lv : jL) (i : Nat) (v : Value) : jL := (i, v) :: lv.filter (fun q => !(q.1 == i) && (!(q.1 == i + 1) && !(q.1 + 1 == i && q.2.category == 2)))
def jt (pc : Nat) (off : Int) : Option Nat := if 0 ≤ (pc : Int) + off then some ((pc : Int) + off).toNat else none
def jcmp (c : ClassFile.Cond) (x y : Int32) : Bool := match c with
  | .eq => decide (x = y)
  | .ne => decide (¬ x = y)
  | .lt => decide (x < y)
  | .ge => decide (y ≤ x)
  | .gt => decide (y < x)
  | .le => decide (x ≤ y)
/-- a load of one slot: an int, null, a reference -/
def jld (lv : jL) (i : Nat) (isInt : Bool) : Option Value := match jl lv i with
  | some (.int x) => if isInt then some (.int x) else none
  | some (.ref a) => if isInt then none else some (.ref a)
  | some (.retAddr a) => if isInt then none else some (.retAddr a)
  | some .null => if isInt then none else some .null
  | _ => none
def jldl (lv : jL) (i : Nat) : Option Value := match jl lv i with
  | some (.long x) => some (.long x)
  | _ => none
abbrev jR : Type := Option (Nat × jL × List Value)
def jpush (pc len : Nat) (lv : jL) (st : List Value) (v : Option Value) : jR := v.map (fun v => (pc + len, lv, v :: st))
def jst1 (mL pc len : Nat) (lv : jL) (i : Nat) (isInt : Bool) (st : List Value) : jR := match st with
  | .int x :: st => if isInt = true ∧ i < mL then some (pc + len, js1 lv i (.int x), st) else none
  | .ref a :: st => if isInt = false ∧ i < mL then some (pc + len, js1 lv i (.ref a), st) else none
  | .null :: st => if isInt = false ∧ i < mL then some (pc + len, js1 lv i .null, st) else none
  | _ => none
def jst2 (mL pc len : Nat) (lv : jL) (i : Nat) (st : List Value) : jR := match st with
  | .long x :: st => if i + 1 < mL then some (pc + len, js2 lv i (.long x), st) else none
  | _ => none
def jbin (pc : Nat) (lv : jL) (f : Int32 → Int32 → Int32) (st : List Value) : jR := match st with
  | .int y :: .int x :: st => some (pc + 1, lv, .int (f x y) :: st)
  | _ => none
def jbil (pc : Nat) (lv : jL) (f : Int64 → Int64 → Int64) (st : List Value) : jR := match st with
  | .long y :: .long x :: st => some (pc + 1, lv, .long (f x y) :: st)
  | _ => none
def jgo (pc : Nat) (lv : jL) (st : List Value) (off : Int) : jR := (jt pc off).map (fun t => (t, lv, st))
def jbr (pc : Nat) (lv : jL) (st : List Value) (off : Int) (b : Bool) : jR := (jt pc off).map (fun t => (if b then t else pc + 3, lv, st))
/-- instructions that neither read nor change a cell -/
def jA (k mL pc len : Nat) (lv : jL) (st : List Value) (i : Instr) : jR := match i with
  | .iconst n => jpush pc 1 lv st (some (.int (Int32.ofInt n)))
  | .bipush n => jpush pc 2 lv st (some (.int (Int8.ofInt n).toInt32))
  | .sipush n => jpush pc 3 lv st (some (.int (Int16.ofInt n).toInt32))
  | .lconst n => jpush pc 1 lv st (some (.long (Int64.ofNat (n : Nat))))
  | .ldc2_w idx => jpush pc 3 lv st ((jm_lng k idx).map .long)
  | .aconst_null => jpush pc 1 lv st (some .null)
  | .iload i => jpush pc 2 lv st (jld lv i true)
  | .iload_n i => jpush pc 1 lv st (jld lv i true)
  | .aload i => jpush pc 2 lv st (jld lv i false)
  | .aload_n i => jpush pc 1 lv st (jld lv i false)
  | .lload i => jpush pc 2 lv st (jldl lv i)
  | .lload_n i => jpush pc 1 lv st (jldl lv i)
  | .istore i => jst1 mL pc 2 lv i true st
  | .istore_n i => jst1 mL pc 1 lv i true st
  | .astore i => jst1 mL pc 2 lv i false st
  | .astore_n i => jst1 mL pc 1 lv i false st
  | .lstore i => jst2 mL pc 2 lv i st
  | .lstore_n i => jst2 mL pc 1 lv i st
  | .iinc i n => match jld lv i true with
    | some (.int x) => if i < mL then some (pc + 3, js1 lv i (.int (x + Int32.ofInt n)), st) else none
    | _ => none
  | .iadd => jbin pc lv (fun x y => x + y) st
  | .isub => jbin pc lv (fun x y => x - y) st
  | .imul => jbin pc lv (fun x y => x * y) st
  | .iand => jbin pc lv (fun x y => x &&& y) st
  | .ior => jbin pc lv (fun x y => x ||| y) st
  | .ixor => jbin pc lv (fun x y => x ^^^ y) st
  | .ishl => jbin pc lv (fun x y => x <<< (y &&& 31)) st
  | .ishr => jbin pc lv (fun x y => x >>> (y &&& 31)) st
  | .iushr => jbin pc lv (fun x y => (x.toUInt32 >>> (y.toUInt32 &&& Int32.toUInt32 31)).toInt32) st
  | .idiv => match st with
    | .int y :: .int x :: st => if y = 0 then none else some (pc + 1, lv, .int (x / y) :: st)
    | _ => none
  | .irem => match st with
    | .int y :: .int x :: st => if y = 0 then none else some (pc + 1, lv, .int (x - x / y * y) :: st)
    | _ => none
  | .ineg => match st with
    | .int x :: st => some (pc + 1, lv, .int (-x) :: st)
    | _ => none
  | .i2l => match st with
    | .int x :: st => some (pc + 1, lv, .long x.toInt64 :: st)
    | _ => none
  | .l2i => match st with
    | .long x :: st => some (pc + 1, lv, .int x.toInt32 :: st)
    | _ => none
  | .ladd => jbil pc lv (fun x y => x + y) st
  | .lmul => jbil pc lv (fun x y => x * y) st
  | .lcmp => match st with
    | .long y :: .long x :: st => some (pc + 1, lv, .int (lg_cmp x y) :: st)
    | _ => none
  | .dup => match st with
    | v :: st => if v.category = 1 then some (pc + 1, lv, v :: v :: st) else none
    | _ => none
  | .pop => match st with
    | v :: st => if v.category = 1 then some (pc + 1, lv, st) else none
    | _ => none
  | .dup2 => match st with
    | v :: w :: st => if v.category = 1 ∧ w.category = 1 then some (pc + 1, lv, v :: w :: v :: w :: st) else none
    | _ => none
  | .ifCond c off => match st with
    | .int x :: st => jbr pc lv st off (jcmp c x 0)
    | _ => none
  | .if_icmp c off => match st with
    | .int y :: .int x :: st => jbr pc lv st off (jcmp c x y)
    | _ => none
  | .goto off => jgo pc lv st off
  | .ifnull off => match st with
    | .null :: st => jgo pc lv st off
    | .ref _ :: st => some (pc + 3, lv, st)
    | _ => none
  | .ifnonnull off => match st with
    | .ref _ :: st => jgo pc lv st off
    | .null :: st => some (pc + 3, lv, st)
    | _ => none
  | .tableswitch dflt lo hi offs => match st with
    | .int x :: st => if x.toInt < lo ∨ hi < x.toInt then jgo pc lv st dflt else
        match offs[(x.toInt - lo).toNat]? with
        | some off => jgo pc lv st off
        | none => none
    | _ => none
  | _ => none
/-- how long an instruction is (0: any length, or none of ours) -/
def jlen (i : Instr) : Nat := match i with
  | .iconst _ | .lconst _ | .aconst_null | .iload_n _ | .aload_n _ | .lload_n _ | .istore_n _ | .astore_n _ | .lstore_n _ => 1
  | .iadd | .isub | .imul | .iand | .ior | .ixor | .ishl | .ishr | .iushr | .idiv | .irem | .ineg | .i2l | .l2i | .ladd | .lmul | .lcmp | .dup | .pop | .dup2 => 1
  | .bipush _ | .iload _ | .aload _ | .lload _ | .istore _ | .astore _ | .lstore _ | .newarray _ => 2
  | .sipush _ | .ldc2_w _ | .iinc _ _ | .ifCond _ _ | .if_icmp _ _ | .goto _ | .ifnull _ | .ifnonnull _ => 3
  | .getfield _ | .putfield _ | .new _ | .anewarray _ | .invokevirtual _ | .invokespecial _ | .invokestatic _ => 3
  | .iaload | .iastore | .baload | .bastore | .aaload | .aastore | .arraylength | .ireturn | .lreturn | .areturn | .return_ => 1
  | .multianewarray _ _ => 4
  | _ => 0
