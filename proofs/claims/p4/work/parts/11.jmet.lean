theorem jsl_one' (v : Value) (as : List Value) : (lg_sl (v :: as)).length = (if v.category = 2 then 2 else 1) + (lg_sl as).length := by
  unfold lg_sl
  rw [List.flatMap_cons, List.length_append]
  by_cases h : v.category = 2
  · rw [if_pos h, if_pos h]; rfl
  · rw [if_neg h, if_neg h]; rfl
theorem jsl_lg (b b0 : Nat) : ∀ as : List Value, (lg_sl (as.map (jv b b0))).length = (lg_sl as).length
  | [] => rfl
  | v :: as => by
    rw [List.map_cons, jsl_one', jsl_one', jv_cat, jsl_lg b b0 as]
theorem jlv_args (b b0 : Nat) : ∀ (as : List Value) (k : Nat), lv_args k (as.map (jv b b0)) = jlv b b0 (lv_args k as)
  | [], _ => rfl
  | v :: as, k => by
    simp only [List.map_cons, lv_args, jv_cat, jlv]
    rw [jlv_args b b0 as]
    rfl
theorem jAO_moved {u U : State} (hvm : u.vm.Alike U.vm) (h : (Cond.arrayOver (.array .int)).before #[] u = true) : (Cond.arrayOver (.array .int)).before #[] U = true := by
  obtain ⟨comp, c, k, h1, h2, h3, h4, h5⟩ := arrayOverA_spec h
  obtain ⟨k', hk', he⟩ := hvm.2.2 _ _ h3
  have hi : (U.vm.classes.findIdx? fun (x : Class) => match x.kind with | .array component _ => component == comp | _ => false) = some c := by
    rw [hvm.findIdx?_eq _ (fun _ => rfl)]; exact h2
  have hkind : k'.kind = .array comp (.array .int) := by rw [he]; exact h4
  have f1 : U.vm.findClass (FieldType.array .int).toString = some comp := by rw [hvm.findClass]; exact h1
  have f2 : U.vm.findClass ("[" ++ (FieldType.array .int).toString) = some c := by rw [hvm.findClass]; exact h5
  unfold Cond.before Cond.holds
  simp only [Cond.value]
  rw [f1, Option.bind_some]
  refine (congrArg (fun o : Option Nat => (o.bind (fun c => (U.vm.classes[c]?).map fun (k : Class) => match k.kind with | .array _ ty => decide (ty = FieldType.array .int) && decide (U.vm.findClass ("[" ++ (FieldType.array .int).toString) = some c) | _ => false) == some true)) hi).trans ?_
  simp [hk', hkind, f2]
theorem jov_moved {u U : State} (hW : u.WarmedH U.vm) (h : jov u) : jov U := by
  refine ⟨fun C hC => (h.1 C hC).moved hW.alike, jAO_moved hW.alike h.2.1, fun w hw => ?_⟩
  obtain ⟨a, i, x, h9, rfl⟩ := jm_nest_ok w hw
  exact va_Nw.warmM hW (h.2.2 _ hw)
def jws (y : Nat) : List Cond := Cond.code (jm_nm y) (jm_code y) (jm_maxL y) (jm_ret y) :: jm_gw
theorem jws_good {y : Nat} (hy0 : y ≠ 0) (hy : y < jm_n) : GoodIn jm_gw (jws y) := by
  intro w hw
  have hm : w ∈ jm_gw := by
    rcases List.mem_cons.mp hw with rfl | h
    · exact (jm_y_ok y hy0 hy).1
    · exact h
  exact ⟨hm, good_of_word (List.mem_filter.mp hm).2⟩
def jroom (d mc ms : Nat) : Room := { frames := d, cells := mc, slots := ms, locals := 40 * d }
def jPc (D : va_G) (dA : Nat → ClassId) (b b0 : Nat) (as : List Value) (h : List jC) : Array Value → State → Prop := fun v U => v = (as.map (jv b b0)).toArray ∧ jWd D dA b b0 h U.heap ∧ va_K D vwCl (jtys dA) U ∧ jov U
def jQc (D : va_G) (dA : Nat → ClassId) (b b0 : Nat) (r : Option Value) (h' : List jC) : Array Value → State → Outcome → State → Prop := fun _ st oc t => oc = .returned (r.map (jv b b0)) ∧ jWd D dA b b0 h' t.heap ∧ va_F (fun q => b0 ≤ q) st t
theorem jend_st {mi : Nat} {st : List Value} {i : Instr} {r : Option Value} (h : jend mi st i = some r) : st = r.toList := by
  unfold jend at h
  split at h
  · split at h
    · cases h; rfl
    · cases h
  · cases h; rfl
  · split at h
    · cases h; rfl
    · cases h
  · split at h
    · cases h; rfl
    · cases h
  · cases h; rfl
  · cases h
theorem jend_len {mi : Nat} {st : List Value} {i : Instr} {r : Option Value} (h : jend mi st i = some r) : jlen i = 1 := by
  unfold jend at h
  split at h <;> first | rfl | cases h
/-- what a run of a method's body is to give, from any place in it -/
def jBody (l : Launch) (D : va_G) (dA : Nat → ClassId) (b b0 L : Nat) (xs : Nat → Int32) (d mi pc : Nat) (lv : jL) (st : List Value) (h : List jC) (r : Option Value) (h' : List jC) : Prop :=
  ∀ (p : Program) (e : Env) (R : Room) (s : State) (m : MethodId) (args : Array Value) (below : List Frame) (meth : Method) (c : Code) (H : Heap) (locs : List Loc) (cells slots : Nat) (Q : State → Prop) (ls : Array Slot),
    jcx D dA b b0 L xs p s m args meth c mi → lv_has ls (jm_maxL mi) (jlv b b0 lv) → jWd D dA b b0 h H → va_S (fun q => b0 ≤ q) s.heap H locs → d ≤ R.frames → 40 * d ≤ R.locals → cells + (h'.length - h.length) ≤ R.cells → slots + (jsl h' - jsl h) ≤ R.slots →
    (∀ (pc' : Nat) (ls' : Array Slot) (H' : Heap) (locs' : List Loc) (i' : Instr), decode (jm_code mi) pc' = .ok (i', 1) → jend mi r.toList i' = some r → jWd D dA b b0 h' H' → va_S (fun q => b0 ≤ q) s.heap H' locs' → W p l e R s m args below meth c H' locs' (cells + (h'.length - h.length)) (slots + (jsl h' - jsl h)) Q (F0 m pc' ls' (r.toList.map (jv b b0)))) →
    W p l e R s m args below meth c H locs cells slots Q (F0 m pc ls (st.map (jv b b0)))
theorem jmet {l : Launch} {D : va_G} {dA : Nat → ClassId} {b b0 L : Nat} {xs : Nat → Int32} {d y : Nat} {as : List Value} {h h1 : List jC} {r : Option Value} (hy : y < jm_n) (hy0 : y ≠ 0) (hsl : (lg_sl as).length ≤ jm_maxL y)
    (body : jBody l D dA b b0 L xs d y 0 (lv_args 0 as) [] h r h1) :
    Met l (jm_nm y) (jws y) (jroom d (h1.length - h.length) (jsl h1 - jsl h)) (jPc D dA b b0 as h) (jQc D dA b b0 r h1) (h1.length - h.length) (jsl h1 - jsl h) (fun q => b0 ≤ q) := by
  obtain ⟨y1, y2, y3, y4, y5, y6, y7⟩ := jm_y_ok y hy0 hy
  refine Met.ofW (cc := jm_code y) (maxL := jm_maxL y) (ret := jm_ret y) y3 rfl ?_
  intro p e s m args below meth c s₁ B hml hv
  obtain ⟨rfl, hW, hK, hov⟩ := hv
  have hts := atoms_spec (ws := jws y) B.pre
  have hown : s.vm.findClass (jm_nm y).cls = some m.cls := findClass_of_methodNamed B.named
  have hlocks := B.notSynchronized
  have hnm := (name_of_methodNamed B.named B.method).1
  have hx := B.exec
  have hb := B.bytes
  have hr := B.returns
  rw [y4] at hown
  have cx : jcx D dA b b0 L xs p s m (as.map (jv b b0)).toArray meth c y := ⟨B.exec, B.bytes, hml, hown, fun w hw => hts w (List.mem_cons_of_mem _ hw), hK, hov, fun hi => hnm.trans (y7 hi), fun h => absurd h hy0, by rw [hW.2]; exact Nat.le_add_right _ _⟩
  rw [lg_entry_eq]
  have hl := lv_entry (as.map (jv b b0)) (n := jm_maxL y) (by rw [jsl_lg]; exact hsl)
  rw [jlv_args] at hl
  refine body p e _ s m _ below meth c s.heap [] 0 0 _ _ cx hl hW va_S.rf (Nat.le_refl d) (Nat.le_refl _) (by rw [Nat.zero_add]; exact Nat.le_refl _) (by rw [Nat.zero_add]; exact Nat.le_refl _) ?_
  intro pc' ls' H' locs' i' hd he hW' hS'
  rw [Nat.zero_add, Nat.zero_add]
  have fin : ∀ t : State, t.heap = H' → s.WarmedH t.vm → jQc D dA b b0 r h1 (as.map (jv b b0)).toArray s (.returned (r.map (jv b b0))) t := fun t ht _ => ⟨rfl, by rw [ht]; exact hW', hS'.F ht⟩
  unfold jend at he
  split at he
  · next x ty hrt hst =>
    split at he
    · next hf =>
      cases he
      exact W.zret hx hb (hr.trans hst) (jfit_ok b b0 hf).1 fin hS'.2.2 hd
    · cases he
  · next x hrt hst =>
    cases he
    exact W.lret hx hb (hr.trans hst) fin hS'.2.2 hd
  · next a ty hrt hst =>
    split at he
    · next hf =>
      cases he
      refine W.aret hx hb (hr.trans hst) ?_ (Or.inr ⟨_, rfl⟩) fin hS'.2.2 hd
      cases ty <;> simp_all [jfit]
    · cases he
  · next ty hrt hst =>
    split at he
    · next hf =>
      cases he
      refine W.aret hx hb (hr.trans hst) ?_ (Or.inl rfl) fin hS'.2.2 hd
      cases ty <;> simp_all [jfit]
    · cases he
  · next hrt hst =>
    cases he
    exact W.vret hx hb (hr.trans hst) fin hS'.2.2 hd
  · cases he
