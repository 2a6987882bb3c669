def jv (b b0 : Nat) (v : Value) : Value := match v with
  | .ref a => .ref (b0 + a)
  | .retAddr _ => .ref b
  | v => v
def jlv (b b0 : Nat) (lv : jL) : jL := lv.map (fun q => (q.1, jv b b0 q.2))
theorem jv_cat (b b0 : Nat) (v : Value) : (jv b b0 v).category = v.category := by
  cases v <;> rfl
theorem jl_mem {lv : jL} {i : Nat} {v : Value} (h : jl lv i = some v) : (i, v) ∈ lv := by
  unfold jl at h
  cases hf : lv.find? (fun q => q.1 == i) with
  | none => rw [hf] at h; cases h
  | some q =>
    rw [hf] at h
    have h1 := List.mem_of_find?_eq_some hf
    have h2 := List.find?_some hf
    cases h
    simp at h2
    rw [← h2]
    exact h1
theorem jl_has {b b0 : Nat} {lv : jL} {i : Nat} {v : Value} {ls : Array Slot} {mL : Nat} (hl : lv_has ls mL (jlv b b0 lv)) (h : jl lv i = some v) : ls[i]? = some (.val (jv b b0 v)) :=
  hl.2.2 (i, jv b b0 v) (List.mem_map.mpr ⟨(i, v), jl_mem h, rfl⟩)
theorem jlv_js1 (b b0 : Nat) (lv : jL) (i : Nat) (v : Value) : (i, jv b b0 v) :: (jlv b b0 lv).filter (fun q => !(q.1 == i) && !(q.1 + 1 == i && q.2.category == 2)) = jlv b b0 (js1 lv i v) := by
  unfold jlv js1
  rw [List.filter_map]
  simp only [List.map_cons]
  congr 2
  apply List.filter_congr
  intro q _
  simp [jv_cat]
theorem jlv_js2 (b b0 : Nat) (lv : jL) (i : Nat) (v : Value) : (i, jv b b0 v) :: (jlv b b0 lv).filter (fun q => !(q.1 == i) && (!(q.1 == i + 1) && !(q.1 + 1 == i && q.2.category == 2))) = jlv b b0 (js2 lv i v) := by
  unfold jlv js2
  rw [List.filter_map]
  simp only [List.map_cons]
  congr 2
  apply List.filter_congr
  intro q _
  simp [jv_cat]
theorem jt_spec {pc t : Nat} {off : Int} (h : jt pc off = some t) : (pc : Int) + off = (t : Int) := by
  unfold jt at h
  split at h
  · cases h; omega
  · cases h
section JA
variable {p : Program} {l : Launch} {e : Env} {R : Room} {s : State} {m : MethodId} {args : Array Value} {below : List Frame} {meth : Method} {c : Code} {H : Heap} {locs : List Loc} {cells slots : Nat} {Q : State → Prop}
variable {cc : ByteArray} {b b0 k mL pc len : Nat} {ls : Array Slot} {lv : jL} {st : List Value}
/-- what is to be shown behind a step of kind A -/
def jK (p : Program) (l : Launch) (e : Env) (R : Room) (s : State) (m : MethodId) (args : Array Value) (below : List Frame) (meth : Method) (c : Code) (H : Heap) (locs : List Loc) (cells slots : Nat) (Q : State → Prop) (b b0 mL : Nat) (r : Nat × jL × List Value) : Prop :=
  ∀ ls' : Array Slot, lv_has ls' mL (jlv b b0 r.2.1) → W p l e R s m args below meth c H locs cells slots Q (F0 m r.1 ls' (r.2.2.map (jv b b0)))
theorem jp_push {r : Nat × jL × List Value} {v : Option Value} (hs : jpush pc len lv st v = some r) (hl : lv_has ls mL (jlv b b0 lv)) (kk : jK p l e R s m args below meth c H locs cells slots Q b b0 mL r) : ∃ w, v = some w ∧ W p l e R s m args below meth c H locs cells slots Q (F0 m (pc + len) ls (jv b b0 w :: st.map (jv b b0))) := by
  unfold jpush at hs
  cases v with
  | none => cases hs
  | some w =>
    cases hs
    exact ⟨w, rfl, kk ls hl⟩
theorem jp_bin {r : Nat × jL × List Value} {f : Int32 → Int32 → Int32} (hs : jbin pc lv f st = some r) (hl : lv_has ls mL (jlv b b0 lv)) (kk : jK p l e R s m args below meth c H locs cells slots Q b b0 mL r)
    (row : ∀ (x y : Int32) (rest : List Value), W p l e R s m args below meth c H locs cells slots Q (F0 m (pc + 1) ls (.int (f x y) :: rest)) → W p l e R s m args below meth c H locs cells slots Q (F0 m pc ls (.int y :: .int x :: rest))) : W p l e R s m args below meth c H locs cells slots Q (F0 m pc ls (st.map (jv b b0))) := by
  unfold jbin at hs
  split at hs
  · cases hs
    exact row _ _ _ (kk ls hl)
  · cases hs
theorem jp_bil {r : Nat × jL × List Value} {f : Int64 → Int64 → Int64} (hs : jbil pc lv f st = some r) (hl : lv_has ls mL (jlv b b0 lv)) (kk : jK p l e R s m args below meth c H locs cells slots Q b b0 mL r)
    (row : ∀ (x y : Int64) (rest : List Value), W p l e R s m args below meth c H locs cells slots Q (F0 m (pc + 1) ls (.long (f x y) :: rest)) → W p l e R s m args below meth c H locs cells slots Q (F0 m pc ls (.long y :: .long x :: rest))) : W p l e R s m args below meth c H locs cells slots Q (F0 m pc ls (st.map (jv b b0))) := by
  unfold jbil at hs
  split at hs
  · cases hs
    exact row _ _ _ (kk ls hl)
  · cases hs
theorem jp_go {r : Nat × jL × List Value} {off : Int} (hs : jgo pc lv st off = some r) (hl : lv_has ls mL (jlv b b0 lv)) (kk : jK p l e R s m args below meth c H locs cells slots Q b b0 mL r) : ∃ t : Nat, (pc : Int) + off = (t : Int) ∧ W p l e R s m args below meth c H locs cells slots Q (F0 m t ls (st.map (jv b b0))) := by
  unfold jgo at hs
  cases ht : jt pc off with
  | none => rw [ht] at hs; cases hs
  | some t =>
    rw [ht] at hs
    cases hs
    exact ⟨t, jt_spec ht, kk ls hl⟩
theorem jp_ldi {i : Nat} {w : Value} (h : jld lv i true = some w) : ∃ x, w = .int x ∧ jl lv i = some (.int x) := by
  unfold jld at h
  split at h <;> simp at h
  next x hx => exact ⟨x, h.symm, hx⟩
theorem jp_lda {i : Nat} {w : Value} (h : jld lv i false = some w) : jl lv i = some w ∧ (w = .null ∨ (∃ a, w = .ref a) ∨ ∃ a, w = .retAddr a) := by
  unfold jld at h
  split at h <;> simp at h
  next a ha => subst h; exact ⟨ha, Or.inr (Or.inl ⟨a, rfl⟩)⟩
  next a ha => subst h; exact ⟨ha, Or.inr (Or.inr ⟨a, rfl⟩)⟩
  next ha => subst h; exact ⟨ha, Or.inl rfl⟩
theorem jp_ldl {i : Nat} {w : Value} (h : jldl lv i = some w) : ∃ x, w = .long x ∧ jl lv i = some (.long x) := by
  unfold jldl at h
  split at h <;> simp at h
  next x hx => exact ⟨x, h.symm, hx⟩
end JA
