/-! STUB of the tables: to be printed by program -/
def jm_nm (_ : Nat) : MethodName := yL_law
def jm_code (_ : Nat) : ByteArray := code
def jm_maxL (_ : Nat) : Nat := 4
def jm_ret (_ : Nat) : Option FieldType := some .boolean
def jm_own (_ : Nat) : Nat := 0
def jm_cn (_ : Nat) : String := RL
def jm_ins (_ _ : Nat) : Option (Instr × Nat) := none
def jm_fld (_ _ : Nat) : Option (Nat × Nat) := none
def jm_ty (_ _ : Nat) : FieldType := .int
def jm_mth (_ _ : Nat) : Option (Nat × Nat × Nat) := none
def jm_oi (_ _ : Nat) : Bool := false
def jm_ac (_ _ : Nat) : Bool := false
def jm_new (_ _ : Nat) : Option Nat := none
def jm_anew (_ _ : Nat) : Option Nat := none
def jm_mna (_ _ : Nat) : Option (Nat × Nat) := none
def jm_lng (_ _ : Nat) : Option Int64 := none
def jm_aty (_ : Nat) : FieldType := .int
def jm_n : Nat := 1
def jm_nat : Nat := 6
def jm_nf (_ : Nat) : Nat := 0
def jm_fin (_ _ : Nat) : Bool := false
def jm_ael (_ : Nat) : Option Nat := none
def jm_ini (_ : Nat) : Bool := false
def jm_gw : List Cond := lw_tbl.filter goodWord
theorem jm_aty0 : jm_aty 0 = .int := rfl
theorem jm_aty1 : jm_aty 1 = .boolean := sorry
theorem jm_nat2 : 2 ≤ jm_nat := by decide
theorem jm_aref : ∀ t, 2 ≤ t → t < jm_nat → (jm_aty t).isReference = true := sorry
theorem jm_ael_ok : ∀ t ci, jm_ael t = some ci → ∃ r : vw_C, vwCl[ci]? = some r ∧ jm_aty t = .object r.1 := sorry
theorem jm_cl_ok : ∀ (ci : Nat) (C : String) (T : u_T) (N : Nat), vwCl[ci]? = some (C, T, N) → (∀ w ∈ u_ws C T N, w ∈ jm_gw) ∧ (∀ k, k < N → parseFieldDescriptor (T k).2.2.1 = some (jm_ty ci k)) ∧ (∀ a, a < N → ∀ b, b < N → a ≠ b → (T a).2.1 ≠ (T b).2.1) ∧ Cond.instantiable C N ∈ jm_gw ∧ Cond.initialized C ∈ jm_gw ∧ jm_nf ci = N ∧ (∀ k, k < N → (T k).1 = C ∧ (T k).2.2.2 = jm_fin ci k) ∧ jm_cn ci = C := sorry
theorem jm_fld_ok : ∀ k idx ci f, jm_fld k idx = some (ci, f) → ∃ (C : String) (T : u_T) (N : Nat), vwCl[ci]? = some (C, T, N) ∧ f < N ∧ Cond.fieldLink (jm_cn k) idx C (T f).2.1 (T f).2.2.1 ∈ jm_gw := sorry
theorem jm_new_ok : ∀ k idx ci, jm_new k idx = some ci → ∃ (C : String) (T : u_T) (N : Nat), vwCl[ci]? = some (C, T, N) ∧ Cond.classLink (jm_cn k) idx C ∈ jm_gw := sorry
def jm_over : List String := []
theorem jm_anew_ok : ∀ k idx t, jm_anew k idx = some t → 2 ≤ t ∧ t < jm_nat ∧ ∃ C : String, jm_aty t = .object C ∧ C ∈ jm_over ∧ Cond.classLink (jm_cn k) idx C ∈ jm_gw := sorry
theorem jm_mna_ok : ∀ k idx t, jm_mna k idx = some t → 2 ≤ t.1 ∧ t.1 < jm_nat ∧ jm_aty t.1 = .array .int ∧ Cond.classLink (jm_cn k) idx "[[I" ∈ jm_gw ∧ Cond.arrayClass .int ∈ jm_gw := sorry
theorem jm_ar : Cond.arrayClass .int ∈ jm_gw ∧ Cond.arrayClass .boolean ∈ jm_gw := sorry
theorem jm_lng_ok : ∀ k idx v, jm_lng k idx = some v → Cond.constantLong (jm_cn k) idx v ∈ jm_gw := sorry
theorem jm_oi_ok : ∀ k idx, jm_oi k idx = true → Cond.methodLink (jm_cn k) idx objectInit ∈ jm_gw ∧ Cond.instanceMethod objectInit ∈ jm_gw ∧ Cond.code objectInit ⟨#[0xb1]⟩ 1 none ∈ jm_gw := sorry
theorem jm_ac_ok : ∀ k idx, jm_ac k idx = true → Cond.methodLink (jm_cn k) idx arraycopyName ∈ jm_gw ∧ Cond.native arraycopyName ∈ jm_gw ∧ Cond.static arraycopyName ∈ jm_gw ∧ Cond.initialized "java/lang/System" ∈ jm_gw := sorry
theorem jm_ins_ok : ∀ mi pc i n, jm_ins mi pc = some (i, n) → decode (jm_code mi) pc = .ok (i, n) := sorry
theorem jm_y_ok : ∀ y, y < jm_n → Cond.code (jm_nm y) (jm_code y) (jm_maxL y) (jm_ret y) ∈ jm_gw ∧ Cond.initialized (jm_nm y).cls ∈ jm_gw ∧ plainName (jm_nm y).cls = true ∧ (jm_nm y).cls = jm_cn (jm_own y) ∧ ((jm_nm y).cls ≠ "java/lang/invoke/MethodHandle" ∧ (jm_nm y).cls ≠ "java/lang/invoke/VarHandle") ∧ jm_maxL y ≤ 21 ∧ (jm_ini y = true → (jm_nm y).name = "<init>") := sorry
def jm_nest : List Cond := []
def jm_host : String := "SealProbe"
theorem jm_nest_ok : ∀ w ∈ jm_nest, ∃ a i x h, w = Cond.methodLinkNest a i x h := fun _ h => absurd h List.not_mem_nil
theorem jm_mth_ok : ∀ k idx kd y n, jm_mth k idx = some (kd, y, n) → (parseMethodDescriptor (jm_nm y).desc).map (fun d => d.parameters.length) = some n ∧
    ((kd = 0 ∨ kd = 1 ∨ kd = 2) → Cond.methodLink (jm_cn k) idx (jm_nm y) ∈ jm_gw) ∧ ((kd = 3 ∨ kd = 4 ∨ kd = 5) → Cond.methodLinkNest (jm_cn k) idx (jm_nm y) jm_host ∈ jm_nest) ∧
    ((kd = 0 ∨ kd = 3) → Cond.instanceMethod (jm_nm y) ∈ jm_gw ∧ Cond.selects (jm_nm y).cls (jm_nm y) (jm_nm y) ∈ jm_gw ∧ vwCl[jm_own y]?.map (fun q => q.1) = some (jm_nm y).cls) ∧
    ((kd = 1 ∨ kd = 4) → Cond.instanceMethod (jm_nm y) ∈ jm_gw ∧ (jm_nm y).name = "<init>" ∧ jm_ret y = none) ∧ ((kd = 2 ∨ kd = 5) → Cond.static (jm_nm y) ∈ jm_gw) := sorry
