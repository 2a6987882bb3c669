/-! A small interpreter of decoded instructions. References are numbers of cells; .retAddr stands for the law's script, which is no cell of ours. -/
abbrev jC : Type := (Nat × vp_A) ⊕ (Nat × List Value)
abbrev jL : Type := List (Nat × Value)
def jl (lv : jL) (i : Nat) : Option Value := (lv.find? (fun q => q.1 == i)).map (fun q => q.2)
def js1 (lv : jL) (i : Nat) (v : Value) : jL := (i, v) :: lv.filter (fun q => !(q.1 == i) && !(q.1 + 1 == i && q.2.category == 2))
def js2 (lv : jL) (i : Nat) (v : Value) : jL := (i, v) :: lv.filter (fun q => !(q.1 == i) && (!(q.1 == i + 1) && !(q.1 + 1 == i && q.2.category == 2)))
def jt (pc : Nat) (off : Int) : Option Nat := if 0 ≤ (pc : Int) + off then some ((pc : Int) + off).toNat else none
def jcmp (c : ClassFile.Cond) (x y : Int32) : Bool := match c with
  | .eq => decide (x = y)
  | .ne => decide (¬ x = y)
  | .lt => decide (x < y)
  | .ge => decide (y ≤ x)
  | .gt => decide (y < x)
  | .le => decide (x ≤ y)
/-- a load of one slot: an int, null, a reference -/
def jld (lv : jL) (i : Nat) (isInt : Bool) : Option Value := match jl lv i with
  | some (.int x) => if isInt then some (.int x) else none
  | some (.ref a) => if isInt then none else some (.ref a)
  | some (.retAddr a) => if isInt then none else some (.retAddr a)
  | some .null => if isInt then none else some .null
  | _ => none
def jldl (lv : jL) (i : Nat) : Option Value := match jl lv i with
  | some (.long x) => some (.long x)
  | _ => none
abbrev jR : Type := Option (Nat × jL × List Value)
def jpush (pc len : Nat) (lv : jL) (st : List Value) (v : Option Value) : jR := v.map (fun v => (pc + len, lv, v :: st))
def jst1 (mL pc len : Nat) (lv : jL) (i : Nat) (isInt : Bool) (st : List Value) : jR := match st with
  | .int x :: st => if isInt = true ∧ i < mL then some (pc + len, js1 lv i (.int x), st) else none
  | .ref a :: st => if isInt = false ∧ i < mL then some (pc + len, js1 lv i (.ref a), st) else none
  | .null :: st => if isInt = false ∧ i < mL then some (pc + len, js1 lv i .null, st) else none
  | _ => none
def jst2 (mL pc len : Nat) (lv : jL) (i : Nat) (st : List Value) : jR := match st with
  | .long x :: st => if i + 1 < mL then some (pc + len, js2 lv i (.long x), st) else none
  | _ => none
def jbin (pc : Nat) (lv : jL) (f : Int32 → Int32 → Int32) (st : List Value) : jR := match st with
  | .int y :: .int x :: st => some (pc + 1, lv, .int (f x y) :: st)
  | _ => none
def jbil (pc : Nat) (lv : jL) (f : Int64 → Int64 → Int64) (st : List Value) : jR := match st with
  | .long y :: .long x :: st => some (pc + 1, lv, .long (f x y) :: st)
  | _ => none
def jgo (pc : Nat) (lv : jL) (st : List Value) (off : Int) : jR := (jt pc off).map (fun t => (t, lv, st))
def jbr (pc : Nat) (lv : jL) (st : List Value) (off : Int) (b : Bool) : jR := (jt pc off).map (fun t => (if b then t else pc + 3, lv, st))
/-- instructions that neither read nor change a cell -/
def jA (k mL pc len : Nat) (lv : jL) (st : List Value) (i : Instr) : jR := match i with
  | .iconst n => jpush pc 1 lv st (some (.int (Int32.ofInt n)))
  | .bipush n => jpush pc 2 lv st (some (.int (Int8.ofInt n).toInt32))
  | .sipush n => jpush pc 3 lv st (some (.int (Int16.ofInt n).toInt32))
  | .lconst n => jpush pc 1 lv st (some (.long (Int64.ofNat (n : Nat))))
  | .ldc2_w idx => jpush pc 3 lv st ((jm_lng k idx).map .long)
  | .aconst_null => jpush pc 1 lv st (some .null)
  | .iload i => jpush pc 2 lv st (jld lv i true)
  | .iload_n i => jpush pc 1 lv st (jld lv i true)
  | .aload i => jpush pc 2 lv st (jld lv i false)
  | .aload_n i => jpush pc 1 lv st (jld lv i false)
  | .lload i => jpush pc 2 lv st (jldl lv i)
  | .lload_n i => jpush pc 1 lv st (jldl lv i)
  | .istore i => jst1 mL pc 2 lv i true st
  | .istore_n i => jst1 mL pc 1 lv i true st
  | .astore i => jst1 mL pc 2 lv i false st
  | .astore_n i => jst1 mL pc 1 lv i false st
  | .lstore i => jst2 mL pc 2 lv i st
  | .lstore_n i => jst2 mL pc 1 lv i st
  | .iinc i n => match jld lv i true with
    | some (.int x) => if i < mL then some (pc + 3, js1 lv i (.int (x + Int32.ofInt n)), st) else none
    | _ => none
  | .iadd => jbin pc lv (fun x y => x + y) st
  | .isub => jbin pc lv (fun x y => x - y) st
  | .imul => jbin pc lv (fun x y => x * y) st
  | .iand => jbin pc lv (fun x y => x &&& y) st
  | .ior => jbin pc lv (fun x y => x ||| y) st
  | .ixor => jbin pc lv (fun x y => x ^^^ y) st
  | .ishl => jbin pc lv (fun x y => x <<< (y &&& 31)) st
  | .ishr => jbin pc lv (fun x y => x >>> (y &&& 31)) st
  | .iushr => jbin pc lv (fun x y => (x.toUInt32 >>> (y.toUInt32 &&& Int32.toUInt32 31)).toInt32) st
  | .idiv => match st with
    | .int y :: .int x :: st => if y = 0 then none else some (pc + 1, lv, .int (x / y) :: st)
    | _ => none
  | .irem => match st with
    | .int y :: .int x :: st => if y = 0 then none else some (pc + 1, lv, .int (x - x / y * y) :: st)
    | _ => none
  | .ineg => match st with
    | .int x :: st => some (pc + 1, lv, .int (-x) :: st)
    | _ => none
  | .i2l => match st with
    | .int x :: st => some (pc + 1, lv, .long x.toInt64 :: st)
    | _ => none
  | .l2i => match st with
    | .long x :: st => some (pc + 1, lv, .int x.toInt32 :: st)
    | _ => none
  | .ladd => jbil pc lv (fun x y => x + y) st
  | .lmul => jbil pc lv (fun x y => x * y) st
  | .lcmp => match st with
    | .long y :: .long x :: st => some (pc + 1, lv, .int (lg_cmp x y) :: st)
    | _ => none
  | .dup => match st with
    | v :: st => if v.category = 1 then some (pc + 1, lv, v :: v :: st) else none
    | _ => none
  | .pop => match st with
    | v :: st => if v.category = 1 then some (pc + 1, lv, st) else none
    | _ => none
  | .dup2 => match st with
    | v :: w :: st => if v.category = 1 ∧ w.category = 1 then some (pc + 1, lv, v :: w :: v :: w :: st) else none
    | _ => none
  | .ifCond c off => match st with
    | .int x :: st => jbr pc lv st off (jcmp c x 0)
    | _ => none
  | .if_icmp c off => match st with
    | .int y :: .int x :: st => jbr pc lv st off (jcmp c x y)
    | _ => none
  | .goto off => jgo pc lv st off
  | .ifnull off => match st with
    | .null :: st => jgo pc lv st off
    | .ref _ :: st => some (pc + 3, lv, st)
    | _ => none
  | .ifnonnull off => match st with
    | .ref _ :: st => jgo pc lv st off
    | .null :: st => some (pc + 3, lv, st)
    | _ => none
  | .tableswitch dflt lo hi offs => match st with
    | .int x :: st => if x.toInt < lo ∨ hi < x.toInt then jgo pc lv st dflt else
        match offs[(x.toInt - lo).toNat]? with
        | some off => jgo pc lv st off
        | none => none
    | _ => none
  | _ => none
/-- how long an instruction is (0: any length, or none of ours) -/
def jlen (i : Instr) : Nat := match i with
  | .iconst _ | .lconst _ | .aconst_null | .iload_n _ | .aload_n _ | .lload_n _ | .istore_n _ | .astore_n _ | .lstore_n _ => 1
  | .iadd | .isub | .imul | .iand | .ior | .ixor | .ishl | .ishr | .iushr | .idiv | .irem | .ineg | .i2l | .l2i | .ladd | .lmul | .lcmp | .dup | .pop | .dup2 => 1
  | .bipush _ | .iload _ | .aload _ | .lload _ | .istore _ | .astore _ | .lstore _ | .newarray _ => 2
  | .sipush _ | .ldc2_w _ | .iinc _ _ | .ifCond _ _ | .if_icmp _ _ | .goto _ | .ifnull _ | .ifnonnull _ => 3
  | .getfield _ | .putfield _ | .new _ | .anewarray _ | .invokevirtual _ | .invokespecial _ | .invokestatic _ => 3
  | .iaload | .iastore | .baload | .bastore | .aaload | .aastore | .arraylength | .ireturn | .lreturn | .areturn | .return_ => 1
  | .multianewarray _ _ => 4
  | _ => 0
def jin (i : Int32) (n : Nat) : Bool := decide (¬ (i < 0 ∨ n ≤ i.toNatClampNeg))
/-- which values a place of a type takes -/
def jfit (ty : FieldType) (v : Value) : Bool := match ty, v with
  | .int, .int _ => true
  | .boolean, .int x => decide (x = 0 ∨ x = 1)
  | .long, .long _ => true
  | .object _, .ref _ => true
  | .object _, .null => true
  | .array _, .ref _ => true
  | .array _, .null => true
  | _, _ => false
def jrf (r : Option Nat) : Value := match r with
  | none => .null
  | some a => .ref a
abbrev jS : Type := Option (Nat × jL × List Value × List jC)
/-- the cell at a number, put anew -/
def jset (pc len : Nat) (lv : jL) (st : List Value) (h : List jC) (a : Nat) (c : jC) : jS := some (pc + len, lv, st, h.set a c)
/-- Math.max (1), Math.floorMod (2), Math.min -/
def jmmv (v : Nat) (x y : Int32) : Int32 := if v = 1 then (if x < y then y else x) else if v = 2 then Jvm.Free.MCB.fmod x y else (if y < x then y else x)
/-- instructions that read, change or make a cell -/
def jH (L : Nat) (xs : Nat → Int32) (isLaw ini : Bool) (k pc : Nat) (lv : jL) (st : List Value) (h : List jC) (i : Instr) : jS := match i with
  | .getfield idx => match st with
    | .ref a :: st => match jm_fld k idx, h[a]? with
      | some (ci, f), some (.inr (ci', fs)) => if ci = ci' then (fs[f]?).map (fun v => (pc + 3, lv, v :: st, h)) else none
      | _, _ => none
    | _ => none
  | .putfield idx => match st with
    | v :: .ref a :: st => match jm_fld k idx, h[a]? with
      | some (ci, f), some (.inr (ci', fs)) => if ci = ci' ∧ f < fs.length ∧ jfit (jm_ty ci f) v = true ∧ (jm_fin ci f = false ∨ ini = true ∧ k = ci) then jset pc 3 lv st h a (.inr (ci, fs.set f v)) else none
      | _, _ => none
    | _ => none
  | .iaload => match st with
    | .int j :: .ref a :: st => match h[a]? with
      | some (.inl (t, n, .inl f)) => if t = 0 ∧ jin j n = true then some (pc + 1, lv, .int (f j.toNatClampNeg) :: st, h) else none
      | _ => none
    | .int j :: .retAddr _ :: st => if isLaw = true ∧ jin j L = true then some (pc + 1, lv, .int (xs j.toNatClampNeg) :: st, h) else none
    | _ => none
  | .baload => match st with
    | .int j :: .ref a :: st => match h[a]? with
      | some (.inl (t, n, .inl f)) => if t = 1 ∧ jin j n = true then some (pc + 1, lv, .int (f j.toNatClampNeg) :: st, h) else none
      | _ => none
    | _ => none
  | .aaload => match st with
    | .int j :: .ref a :: st => match h[a]? with
      | some (.inl (t, n, .inr (.inr (.inr (.inr f))))) => if 2 ≤ t ∧ t < jm_nat ∧ jin j n = true then some (pc + 1, lv, jrf (f j.toNatClampNeg) :: st, h) else none
      | _ => none
    | _ => none
  | .arraylength => match st with
    | .ref a :: st => match h[a]? with
      | some (.inl (t, n, _)) => if t < jm_nat then some (pc + 1, lv, .int (Int32.ofNat n) :: st, h) else none
      | _ => none
    | .retAddr _ :: st => if isLaw = true then some (pc + 1, lv, .int (Int32.ofNat L) :: st, h) else none
    | _ => none
  | .iastore => match st with
    | .int x :: .int j :: .ref a :: st => match h[a]? with
      | some (.inl (t, n, .inl f)) => if t = 0 ∧ jin j n = true then jset pc 1 lv st h a (.inl (t, n, .inl (upd f j.toNatClampNeg x))) else none
      | _ => none
    | _ => none
  | .bastore => match st with
    | .int x :: .int j :: .ref a :: st => match h[a]? with
      | some (.inl (t, n, .inl f)) => if t = 1 ∧ jin j n = true ∧ (x = 0 ∨ x = 1) then jset pc 1 lv st h a (.inl (t, n, .inl (upd f j.toNatClampNeg x))) else none
      | _ => none
    | _ => none
  | .aastore => match st with
    | .ref v :: .int j :: .ref a :: st => match h[a]?, h[v]? with
      | some (.inl (t, n, .inr (.inr (.inr (.inr f))))), some (.inr (ci, _)) => if jm_ael t = some ci ∧ t < jm_nat ∧ jin j n = true then jset pc 1 lv st h a (.inl (t, n, .inr (.inr (.inr (.inr (va_up f j.toNatClampNeg (some v))))))) else none
      | _, _ => none
    | _ => none
  | .new idx => match jm_new k idx with
    | some ci => some (pc + 3, lv, .ref h.length :: st, h ++ [.inr (ci, (List.range (jm_nf ci)).map (fun j => defaultValue (jm_ty ci j)))])
    | none => none
  | .newarray ty => match st with
    | .int n :: st => if ¬ n < 0 ∧ n.toNatClampNeg ≤ 100000 then
        (match newarray.typeOf ty with
        | .int => some (pc + 2, lv, .ref h.length :: st, h ++ [.inl (0, n.toNatClampNeg, .inl (fun _ => 0))])
        | .boolean => some (pc + 2, lv, .ref h.length :: st, h ++ [.inl (1, n.toNatClampNeg, .inl (fun _ => 0))])
        | _ => none) else none
    | _ => none
  | .anewarray idx => match st, jm_anew k idx with
    | .int n :: st, some t => if ¬ n < 0 ∧ n.toNatClampNeg ≤ 100000 then some (pc + 3, lv, .ref h.length :: st, h ++ [.inl (t, n.toNatClampNeg, .inr (.inr (.inr (.inr (fun _ => none)))))]) else none
    | _, _ => none
  | .multianewarray idx 2 => match st, jm_mna k idx with
    | .int w :: .int n :: st, some t => if t.2 = 0 ∧ ¬ n < 0 ∧ ¬ w < 0 ∧ n.toNatClampNeg ≤ 1000 ∧ w.toNatClampNeg ≤ 1000 then
        some (pc + 4, lv, .ref h.length :: st, (h ++ [.inl (t.1, n.toNatClampNeg, .inr (.inr (.inr (.inr (fun i => if i < n.toNatClampNeg then some (h.length + 1 + i) else none)))))]) ++ List.replicate n.toNatClampNeg (.inl (0, w.toNatClampNeg, .inl (fun _ => 0)))) else none
    | _, _ => none
  | .invokestatic idx => match jm_mm k idx with
    | some v => (match st with
      | .int y :: .int x :: st => if (st.map fun v => v.category).sum ≤ 8 ∧ (v = 2 → y ≠ 0) then some (pc + 3, lv, .int (jmmv v x y) :: st, h) else none
      | _ => none)
    | none => match st with
    | .int n :: .int dp :: .ref a :: .int sp :: .ref a0 :: st => match jm_ac k idx, h[a0]?, h[a]? with
      | true, some (.inl (t0, n0, .inl f)), some (.inl (t1, n1, .inl g)) => if t0 = 0 ∧ t1 = 0 ∧ ¬ sp < 0 ∧ ¬ dp < 0 ∧ ¬ n < 0 ∧ sp.toNatClampNeg + n.toNatClampNeg ≤ n0 ∧ dp.toNatClampNeg + n.toNatClampNeg ≤ n1 ∧ (st.map fun v => v.category).sum ≤ 8 then
          jset pc 3 lv st h a (.inl (t1, n1, .inl (va_cpy f g sp.toNatClampNeg dp.toNatClampNeg n.toNatClampNeg))) else none
      | _, _, _ => none
    | _ => none
  | .invokespecial idx => match st with
    | .ref _ :: st => if jm_oi k idx = true ∧ (st.map fun v => v.category).sum ≤ 8 then some (pc + 3, lv, st, h) else none
    | _ => none
  | _ => none
/-- a call: who, its arguments (the receiver first), what stays below them -/
def jcall (k : Nat) (st : List Value) (h : List jC) (i : Instr) : Option (Nat × List Value × List Value) := match i with
  | .invokevirtual idx => match jm_mth k idx with
    | some (kd, y, n) => if (kd = 0 ∨ kd = 3) ∧ n ≤ st.length then
        (match st.drop n with
        | .ref a :: rest => (match h[a]? with
          | some (.inr (ci, _)) => if jm_own y = ci ∧ (rest.map fun v => v.category).sum ≤ 8 then some (y, .ref a :: (st.take n).reverse, rest) else none
          | _ => none)
        | _ => none) else none
    | none => none
  | .invokespecial idx => match jm_mth k idx with
    | some (kd, y, n) => if (kd = 1 ∨ kd = 4) ∧ n ≤ st.length then
        (match st.drop n with
        | .ref a :: rest => if (rest.map fun v => v.category).sum ≤ 8 then some (y, .ref a :: (st.take n).reverse, rest) else none
        | _ => none) else none
    | none => none
  | .invokestatic idx => match jm_mth k idx with
    | some (kd, y, n) => if (kd = 2 ∨ kd = 5) ∧ n ≤ st.length ∧ ((st.drop n).map fun v => v.category).sum ≤ 8 then some (y, (st.take n).reverse, st.drop n) else none
    | none => none
  | _ => none
/-- an end -/
def jend (mi : Nat) (st : List Value) (i : Instr) : Option (Option Value) := match i, st, jm_ret mi with
  | .ireturn, [.int x], some ty => if jfit ty (.int x) = true then some (some (.int x)) else none
  | .lreturn, [.long x], some .long => some (some (.long x))
  | .areturn, [.ref a], some ty => if jfit ty (.ref a) = true then some (some (.ref a)) else none
  | .areturn, [.null], some ty => if jfit ty .null = true then some (some .null) else none
  | .return_, [], none => some none
  | _, _, _ => none
def jstep (L : Nat) (xs : Nat → Int32) (d mi pc : Nat) (lv : jL) (st : List Value) (h : List jC) (i : Instr) (len : Nat) : jS :=
  match jA (jm_own mi) (jm_maxL mi) pc len lv st i with
  | some (pc', lv', st') => some (pc', lv', st', h)
  | none => if d = 0 then none else jH L xs (decide (mi = 0)) (jm_ini mi) (jm_own mi) pc lv st h i
def jrun (L : Nat) (xs : Nat → Int32) : Nat → Nat → Nat → Nat → jL → List Value → List jC → Option (Option Value × List jC)
  | 0, _, _, _, _, _, _ => none
  | n + 1, d, mi, pc, lv, st, h => match jm_ins mi pc with
    | none => none
    | some (i, len) => if jlen i = 0 ∨ len = jlen i then
        (match jend mi st i with
        | some r => some (r, h)
        | none => match jcall (jm_own mi) st h i, d with
          | some (y, as, rest), d' + 1 => if y ≠ 0 ∧ y < jm_n ∧ (lg_sl as).length ≤ jm_maxL y then
              (match jrun L xs n d' y 0 (lv_args 0 as) [] h with
              | some (r, h1) => jrun L xs n (d' + 1) mi (pc + 3) lv (r.toList ++ rest) h1
              | none => none) else none
          | some _, 0 => none
          | none, d => match jstep L xs d mi pc lv st h i len with
            | some (pc', lv', st', h') => jrun L xs n d mi pc' lv' st' h'
            | none => none) else none
