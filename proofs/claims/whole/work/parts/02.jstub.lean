/-! STUB of the tables: to be printed by program -/
def jm_nm (_ : Nat) : MethodName := yL_law
def jm_code (_ : Nat) : ByteArray := code
def jm_maxL (_ : Nat) : Nat := 4
def jm_ret (_ : Nat) : Option FieldType := some .boolean
def jm_own (_ : Nat) : Nat := 0
def jm_cn (_ : Nat) : String := RL
def jm_ins (_ _ : Nat) : Option (Instr × Nat) := none
def jm_fld (_ _ : Nat) : Option (Nat × Nat) := none
def jm_ty (_ _ : Nat) : FieldType := .int
def jm_mth (_ _ : Nat) : Option (Nat × Nat × Nat) := none
def jm_oi (_ _ : Nat) : Bool := false
def jm_ac (_ _ : Nat) : Bool := false
def jm_new (_ _ : Nat) : Option Nat := none
def jm_anew (_ _ : Nat) : Option Nat := none
def jm_mna (_ _ : Nat) : Option (Nat × Nat) := none
def jm_lng (_ _ : Nat) : Option Int64 := none
def jm_aty (_ : Nat) : FieldType := .int
