def jx (b0 : Nat) (x : vp_A) : vp_A := match x with
  | (n, .inr (.inr (.inr (.inr f)))) => (n, .inr (.inr (.inr (.inr (fun i => (f i).map (fun a => b0 + a))))))
  | x => x
def je (b b0 : Nat) (dA : Nat → ClassId) (c : jC) : va_E := match c with
  | .inl (t, x) => .inl (dA t, jx b0 x)
  | .inr (ci, fs) => .inr (ci, fs.map (jv b b0))
def jw (b b0 : Nat) (dA : Nat → ClassId) (h : List jC) : va_W := h.mapIdx (fun i c => (b0 + i, je b b0 dA c))
def jtys (dA : Nat → ClassId) : List (ClassId × FieldType) := (List.range jm_nat).map (fun t => (dA t, jm_aty t))
def jWd (D : va_G) (dA : Nat → ClassId) (b b0 : Nat) (h : List jC) (H : Heap) : Prop := va_P D vwCl (jw b b0 dA h) H ∧ H.size = b0 + h.length
theorem jw_get {b b0 : Nat} {dA : Nat → ClassId} {h : List jC} {a : Nat} {c : jC} (hc : h[a]? = some c) : (jw b b0 dA h)[a]? = some (b0 + a, je b b0 dA c) := by
  unfold jw
  rw [List.getElem?_mapIdx, hc]
  rfl
theorem jw_inv {b b0 : Nat} {dA : Nat → ClassId} {h : List jC} {a : Nat} {q : Nat × va_E} (hq : (jw b b0 dA h)[a]? = some q) : ∃ c, h[a]? = some c ∧ q = (b0 + a, je b b0 dA c) := by
  unfold jw at hq
  rw [List.getElem?_mapIdx] at hq
  cases hc : h[a]? with
  | none => rw [hc] at hq; cases hq
  | some c => rw [hc] at hq; cases hq; exact ⟨c, rfl, rfl⟩
theorem jw_D (b b0 : Nat) (dA : Nat → ClassId) (h : List jC) : va_D (fun q => b0 ≤ q) (jw b b0 dA h) := by
  refine ⟨fun i j x y hi hj hxy => ?_, fun k q hk => ?_⟩
  · obtain ⟨_, _, rfl⟩ := jw_inv hi
    obtain ⟨_, _, rfl⟩ := jw_inv hj
    simp at hxy
    exact hxy
  · obtain ⟨_, _, rfl⟩ := jw_inv hk
    exact Nat.le_add_right b0 k
theorem jtys_get {dA : Nat → ClassId} {t : Nat} (ht : t < jm_nat) : (jtys dA)[t]? = some (dA t, jm_aty t) := by
  unfold jtys
  rw [List.getElem?_map, List.getElem?_range ht]
  rfl
theorem jWd.at {D : va_G} {dA : Nat → ClassId} {b b0 : Nat} {h : List jC} {H : Heap} (hW : jWd D dA b b0 h H) {a : Nat} {c : jC} (hc : h[a]? = some c) : va_at D vwCl (b0 + a, je b b0 dA c) H := hW.1 a _ (jw_get hc)
theorem jWd.set {D : va_G} {dA : Nat → ClassId} {b b0 : Nat} {h : List jC} {H H1 : Heap} (hW : jWd D dA b b0 h H) {a : Nat} {c0 c : jC} (hc : h[a]? = some c0) (he : va_at D vwCl (b0 + a, je b b0 dA c) H1) (hz : H1.size = H.size) (oq : ∀ q : Nat, q ≠ b0 + a → H1[q]? = H[q]?) : jWd D dA b b0 (h.set a c) H1 := by
  have hl := (List.getElem?_eq_some_iff.mp hc).1
  refine ⟨fun k q hq => ?_, by rw [hz, hW.2, List.length_set]⟩
  obtain ⟨c', hc', rfl⟩ := jw_inv hq
  by_cases hk : k = a
  · subst hk
    rw [List.getElem?_set_self hl] at hc'
    cases hc'
    exact he
  · rw [List.getElem?_set_ne (Ne.symm hk)] at hc'
    exact (hW.at hc').kept (oq _ (by show b0 + k ≠ b0 + a; omega))
theorem jWd.push {D : va_G} {dA : Nat → ClassId} {b b0 : Nat} {h : List jC} {H H1 : Heap} (hW : jWd D dA b b0 h H) {c : jC} (he : va_at D vwCl (b0 + h.length, je b b0 dA c) H1) (hz : H1.size = H.size + 1) (oq : ∀ q : Nat, q < H.size → H1[q]? = H[q]?) : jWd D dA b b0 (h ++ [c]) H1 := by
  refine ⟨fun k q hq => ?_, by rw [hz, hW.2, List.length_append]; rfl⟩
  obtain ⟨c', hc', rfl⟩ := jw_inv hq
  by_cases hk : k < h.length
  · rw [List.getElem?_append_left hk] at hc'
    exact (hW.at hc').kept (oq _ (by show b0 + k < H.size; rw [hW.2]; omega))
  · rw [List.getElem?_append_right (by omega)] at hc'
    have h0 : k - h.length < 1 := (List.getElem?_eq_some_iff.mp hc').1
    have hk0 : k = h.length := by omega
    subst hk0
    rw [Nat.sub_self] at hc'
    cases hc'
    exact he
theorem jin_spec {i : Int32} {n : Nat} (h : jin i n = true) : vp_in i n := by
  unfold jin at h
  show ¬ (i < 0 ∨ n ≤ i.toNatClampNeg)
  exact of_decide_eq_true h
theorem jfit_ok {ty : FieldType} {v : Value} (b b0 : Nat) (h : jfit ty v = true) : narrow ty (jv b b0 v) = jv b b0 v ∧ fits ty (jv b b0 v) = true := by
  unfold jfit at h
  split at h
  · exact ⟨rfl, rfl⟩
  · next x =>
    rcases of_decide_eq_true h with rfl | rfl
    · exact ⟨show narrow .boolean (.int 0) = .int 0 by decide +kernel, show fits .boolean (.int 0) = true by decide +kernel⟩
    · exact ⟨show narrow .boolean (.int 1) = .int 1 by decide +kernel, show fits .boolean (.int 1) = true by decide +kernel⟩
  · exact ⟨rfl, rfl⟩
  · exact ⟨rfl, rfl⟩
  · exact ⟨rfl, rfl⟩
  · exact ⟨rfl, rfl⟩
  · exact ⟨rfl, rfl⟩
  · cases h
def jsz (c : jC) : Nat := match c with
  | .inl (_, n, _) => n
  | .inr (_, fs) => fs.length
def jsl (h : List jC) : Nat := (h.map jsz).sum
theorem jsl_set : ∀ (h : List jC) (a : Nat) (c0 c : jC), h[a]? = some c0 → jsz c = jsz c0 → jsl (h.set a c) = jsl h
  | [], _, _, _, h1, _ => by simp at h1
  | x :: h, 0, c0, c, h1, h2 => by
    simp at h1
    subst h1
    simp [jsl, h2]
  | x :: h, a + 1, c0, c, h1, h2 => by
    have := jsl_set h a c0 c (by simpa using h1) h2
    simp [jsl] at this ⊢
    exact this
theorem jsl_app (h g : List jC) : jsl (h ++ g) = jsl h + jsl g := by simp [jsl]
theorem jsl_one (c : jC) : jsl [c] = jsz c := by simp [jsl]

def jov (s : State) : Prop := (∀ C ∈ jm_over, va_AO C s) ∧ (Cond.arrayOver (.array .int)).before #[] s = true ∧ ∀ w ∈ jm_nest, va_Nw w s
/-- what stands fixed while a method runs -/
def jcx (D : va_G) (dA : Nat → ClassId) (b b0 L : Nat) (xs : Nat → Int32) (p : Program) (s : State) (m : MethodId) (args : Array Value) (meth : Method) (c : Code) (mi : Nat) : Prop :=
  p.tables.exec = Jvm.exec ∧ c.code = jm_code mi ∧ c.maxLocals = jm_maxL mi ∧ s.vm.findClass (jm_cn (jm_own mi)) = some m.cls ∧ (∀ w ∈ jm_gw, w.before args s = true) ∧ va_K D vwCl (jtys dA) s ∧ jov s ∧ (jm_ini mi = true → meth.name = "<init>") ∧ (mi = 0 → va_X b L xs s s.heap ∧ b < s.heap.size ∧ b < b0) ∧ b0 ≤ s.heap.size
section JH
variable {p : Program} {l : Launch} {e : Env} {R : Room} {s : State} {m : MethodId} {args : Array Value} {below : List Frame} {meth : Method} {c : Code} {H : Heap} {locs : List Loc} {cells slots : Nat} {Q : State → Prop}
variable {D : va_G} {dA : Nat → ClassId} {b b0 L mi pc : Nat} {xs : Nat → Int32} {ls : Array Slot} {rest : List Value} {h : List jC}
theorem jh_get (cx : jcx D dA b b0 L xs p s m args meth c mi) (hW : jWd D dA b b0 h H) {idx a ci f : Nat} {fs : List Value} {v : Value} (hf : jm_fld (jm_own mi) idx = some (ci, f)) (ha : h[a]? = some (.inr (ci, fs))) (hv : fs[f]? = some v) (hd : decode (jm_code mi) pc = .ok (.getfield idx, 3))
    (kk : W p l e R s m args below meth c H locs cells slots Q (F0 m (pc + 3) ls (jv b b0 v :: rest))) : W p l e R s m args below meth c H locs cells slots Q (F0 m pc ls (.ref (b0 + a) :: rest)) := by
  obtain ⟨hx, hb, hml, hown, hts, hK, hov, hin, hX, hbs⟩ := cx
  obtain ⟨C, T, N, hc, hN, hlk⟩ := jm_fld_ok _ _ _ _ hf
  obtain ⟨k1, k2, k3, k4, k5, k6, k7, k8⟩ := jm_cl_ok ci C T N hc
  have hT := (k7 f hN).1
  refine va_get hx hb hts k1 hown hK hW.1 a (jw_get ha) hc f hN (hts _ hlk) (fun x h => by rw [← hT]; exact h) ?_ hd kk
  rw [List.getElem?_map, hv]
  rfl
theorem jh_iald (cx : jcx D dA b b0 L xs p s m args meth c mi) (hW : jWd D dA b b0 h H) {a n : Nat} {f : Nat → Int32} {j : Int32} (ha : h[a]? = some (.inl (0, n, .inl f))) (hj : jin j n = true) (hd : decode (jm_code mi) pc = .ok (.iaload, 1))
    (kk : W p l e R s m args below meth c H locs cells slots Q (F0 m (pc + 1) ls (.int (f j.toNatClampNeg) :: rest))) : W p l e R s m args below meth c H locs cells slots Q (F0 m pc ls (.int j :: .ref (b0 + a) :: rest)) := by
  obtain ⟨hx, hb, hml, hown, hts, hK, hov, hin, hX, hbs⟩ := cx
  have ht := jtys_get (dA := dA) (t := 0) (Nat.lt_of_lt_of_le (by decide) jm_nat2)
  rw [jm_aty0] at ht
  exact va_iald hx hb hK hW.1 a 0 (jw_get ha) ht (jin_spec hj) hd kk
theorem jh_bald (cx : jcx D dA b b0 L xs p s m args meth c mi) (hW : jWd D dA b b0 h H) {a n : Nat} {f : Nat → Int32} {j : Int32} (ha : h[a]? = some (.inl (1, n, .inl f))) (hj : jin j n = true) (hd : decode (jm_code mi) pc = .ok (.baload, 1))
    (kk : W p l e R s m args below meth c H locs cells slots Q (F0 m (pc + 1) ls (.int (f j.toNatClampNeg) :: rest))) : W p l e R s m args below meth c H locs cells slots Q (F0 m pc ls (.int j :: .ref (b0 + a) :: rest)) := by
  obtain ⟨hx, hb, hml, hown, hts, hK, hov, hin, hX, hbs⟩ := cx
  have ht := jtys_get (dA := dA) (t := 1) (Nat.lt_of_lt_of_le (by decide) jm_nat2)
  rw [jm_aty1] at ht
  exact va_zald hx hb hK hW.1 a 1 (jw_get ha) ht (jin_spec hj) hd kk
theorem jh_aald (cx : jcx D dA b b0 L xs p s m args meth c mi) (hW : jWd D dA b b0 h H) {a n t : Nat} {f : Nat → Option Nat} {j : Int32} (ha : h[a]? = some (.inl (t, n, .inr (.inr (.inr (.inr f)))))) (h2 : 2 ≤ t) (ht : t < jm_nat) (hj : jin j n = true) (hd : decode (jm_code mi) pc = .ok (.aaload, 1))
    (kk : W p l e R s m args below meth c H locs cells slots Q (F0 m (pc + 1) ls (jv b b0 (jrf (f j.toNatClampNeg)) :: rest))) : W p l e R s m args below meth c H locs cells slots Q (F0 m pc ls (.int j :: .ref (b0 + a) :: rest)) := by
  obtain ⟨hx, hb, hml, hown, hts, hK, hov, hin, hX, hbs⟩ := cx
  have hr := jm_aref t h2 ht
  have hvi := jin_spec hj
  have hlt : j.toNatClampNeg < n := Nat.not_le.mp fun q => hvi (Or.inr q)
  have hg : ∀ i, va_rf ((f i).map (fun a => b0 + a)) = jv b b0 (jrf (f i)) := fun i => by cases f i <;> rfl
  have hP : H[b0 + a]? = some (arrV (dA t) n (fun i => va_rf ((f i).map (fun a => b0 + a)))) := hW.at ha
  refine W.aald (v := jv b b0 (jrf (f j.toNatClampNeg))) (ty := jm_aty t) hx hb hP ((hK.2 t _ (jtys_get ht)).1 n (fun i => va_rf ((f i).map (fun a => b0 + a)))) hr (fun q => by cases q) (by rw [arrV_size]; exact hvi) (by rw [arrV_read _ _ hlt, hg]) rfl rfl hd kk
theorem jh_alen (cx : jcx D dA b b0 L xs p s m args meth c mi) (hW : jWd D dA b b0 h H) {a n t : Nat} {x : (Nat → Int32) ⊕ (Nat → Int64) ⊕ (Nat → UInt32) ⊕ (Nat → UInt64) ⊕ (Nat → Option Nat)} (ha : h[a]? = some (.inl (t, n, x))) (ht : t < jm_nat) (hd : decode (jm_code mi) pc = .ok (.arraylength, 1))
    (kk : W p l e R s m args below meth c H locs cells slots Q (F0 m (pc + 1) ls (.int (Int32.ofNat n) :: rest))) : W p l e R s m args below meth c H locs cells slots Q (F0 m pc ls (.ref (b0 + a) :: rest)) := by
  obtain ⟨hx, hb, hml, hown, hts, hK, hov, hin, hX, hbs⟩ := cx
  refine va_alen hx hb hK hW.1 a t (jw_get ha) (jtys_get ht) ?_ hd kk
  obtain f | f | f | f | f := x <;> rfl
theorem jh_sld (cx : jcx D dA b b0 L xs p s m args meth c mi) (h0 : mi = 0) (hS : va_S (fun q => b0 ≤ q) s.heap H locs) {j : Int32} (hj : jin j L = true) (hd : decode (jm_code mi) pc = .ok (.iaload, 1))
    (kk : W p l e R s m args below meth c H locs cells slots Q (F0 m (pc + 1) ls (.int (xs j.toNatClampNeg) :: rest))) : W p l e R s m args below meth c H locs cells slots Q (F0 m pc ls (.int j :: .ref b :: rest)) := by
  obtain ⟨hx, hb, hml, hown, hts, hK, hov, hin, hX, hbs⟩ := cx
  obtain ⟨g1, g2, g3⟩ := hX h0
  exact va_sld hx hb g1 g2 (by show ¬ b0 ≤ b; omega) hS (jin_spec hj) hd kk
theorem jh_slen (cx : jcx D dA b b0 L xs p s m args meth c mi) (h0 : mi = 0) (hS : va_S (fun q => b0 ≤ q) s.heap H locs) (hd : decode (jm_code mi) pc = .ok (.arraylength, 1))
    (kk : W p l e R s m args below meth c H locs cells slots Q (F0 m (pc + 1) ls (.int (Int32.ofNat L) :: rest))) : W p l e R s m args below meth c H locs cells slots Q (F0 m pc ls (.ref b :: rest)) := by
  obtain ⟨hx, hb, hml, hown, hts, hK, hov, hin, hX, hbs⟩ := cx
  obtain ⟨g1, g2, g3⟩ := hX h0
  exact va_slen hx hb g1 g2 (by show ¬ b0 ≤ b; omega) hS hd kk
end JH
