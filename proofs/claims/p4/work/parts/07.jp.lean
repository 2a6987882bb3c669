section JP
variable {p : Program} {l : Launch} {e : Env} {R : Room} {s : State} {m : MethodId} {args : Array Value} {below : List Frame} {meth : Method} {c : Code} {H : Heap} {locs : List Loc} {cells slots : Nat} {Q : State → Prop}
variable {D : va_G} {dA : Nat → ClassId} {b b0 L mi pc : Nat} {xs : Nat → Int32} {ls : Array Slot} {rest : List Value} {h : List jC}
/-- what is to be shown behind a step that leaves the heap h' -/
def jKH (p : Program) (l : Launch) (e : Env) (R : Room) (s : State) (m : MethodId) (args : Array Value) (below : List Frame) (meth : Method) (c : Code) (cells slots : Nat) (Q : State → Prop) (D : va_G) (dA : Nat → ClassId) (b b0 : Nat) (h' : List jC) (g : JFrame) : Prop :=
  ∀ (H1 : Heap) (locs1 : List Loc), jWd D dA b b0 h' H1 → va_S (fun q => b0 ≤ q) s.heap H1 locs1 → W p l e R s m args below meth c H1 locs1 cells slots Q g
theorem jh_put (cx : jcx D dA b b0 L xs p s m args meth c mi) (hW : jWd D dA b b0 h H) (hS : va_S (fun q => b0 ≤ q) s.heap H locs) {idx a ci f : Nat} {fs : List Value} {v : Value} (hf : jm_fld (jm_own mi) idx = some (ci, f)) (ha : h[a]? = some (.inr (ci, fs))) (hl : f < fs.length) (hv : jfit (jm_ty ci f) v = true) (hfin : jm_fin ci f = false ∨ jm_ini mi = true ∧ jm_own mi = ci) (hd : decode (jm_code mi) pc = .ok (.putfield idx, 3))
    (kk : jKH p l e R s m args below meth c cells slots Q D dA b b0 (h.set a (.inr (ci, fs.set f v))) (F0 m (pc + 3) ls rest)) : W p l e R s m args below meth c H locs cells slots Q (F0 m pc ls (jv b b0 v :: .ref (b0 + a) :: rest)) := by
  obtain ⟨hx, hb, hml, hown, hts, hK, hov, hin, hX, hbs⟩ := cx
  obtain ⟨C, T, N, hc, hN, hlk⟩ := jm_fld_ok _ _ _ _ hf
  obtain ⟨k1, k2, k3, k4, k5, k6, k7, k8⟩ := jm_cl_ok ci C T N hc
  obtain ⟨hT, hFn⟩ := k7 f hN
  obtain ⟨n1, n2⟩ := jfit_ok b b0 hv
  have hap := va_apart (own := C) hts k1 (jm_ty ci) k2 k3 hK hc
  obtain ⟨r, h1, cell, q1, q2, q3, q4⟩ := hW.at ha
  have hr : r = (C, T, N) := Option.some.inj (h1.symm.trans hc)
  subst hr
  obtain ⟨hSl, hfc, kC, hkC, hkind⟩ := hK.1 ci _ hc
  obtain ⟨cf, kf, fi, fd, hi, hsl⟩ := hSl f hN
  have hlay := hts _ (k1 _ (u_in_lay hN))
  have hst := (u_facts hfc hkC (u_lays hts k1 hN) hi).1
  have hll : f < (fs.map (jv b b0)).length := by rw [List.length_map]; exact hl
  have fin : ∀ (H' : Heap) (i9 : Nat), H'[b0 + a]? = some (cell.setSlot fd.slot (jv b b0 v)) → H'.size = H.size → (∀ q, q ≠ b0 + a → H'[q]? = H[q]?) → W p l e R s m args below meth c H' (locs ++ [⟨b0 + a, i9⟩]) cells slots Q (F0 m (pc + 3) ls rest) := by
    intro H' i9 e1 e2 e3
    rw [hsl] at e1
    refine kk H' _ (hW.set ha ?_ e2 e3) (hS.put e2 e3 (Nat.le_add_right b0 a))
    refine ⟨_, hc, ?_⟩
    have := t_OB.to (V := updV (vp_V (fs.map (jv b b0))) f (jv b b0 v)) ⟨_, e1, q2, q3, t_set q4 hap hN (jv b b0 v)⟩ (fun j _ => vp_updV_set hll (jv b b0 v) j)
    rw [← List.map_set] at this
    exact this
  unfold u_lay at hlay
  by_cases hff : (T f).2.2.2 = true
  · rw [if_pos hff] at hlay
    have hii : jm_ini mi = true ∧ jm_own mi = ci := by
      rcases hfin with g | g
      · rw [← hFn, hff] at g; cases g
      · exact g
    have hcf : m.cls = cf := by
      obtain ⟨_, _, c', _, _, _, -, -, hf', -, -, -, hown2, -⟩ := Cond.laysFinal_spec hlay
      have e1 : c' = cf := by have := hi.symm.trans hf'; simp at this; exact this.1.symm
      rw [hT, ← k8, ← hii.2] at hown2
      rw [← e1]; exact Option.some.inj (hown.symm.trans hown2)
    have h6 := u_fits hfc hkC hkind (Or.inr hlay) hi (k2 f hN) n1 n2
    refine W.putFinK hx hb hown (hts _ hlk) (by rw [← hT]; exact hi) hst hcf (hin hii.1) (by rw [q2]; exact h6) q1 q3 (by rw [hsl]; exact k2_hasslot (q4 f hN)) rfl rfl hd fun H' e1 e2 e3 => fin H' _ e1 e2 e3
  · rw [if_neg hff] at hlay
    have h6 := u_store hfc hkC hkind hlay hi (k2 f hN) n1 n2
    refine W.putK hx hb (f := fd) ⟨hown, hts _ hlk, ⟨_, _, _, by rw [← hT]; exact hi⟩, hst⟩ (by rw [q2]; exact h6) q1 q3 (by rw [hsl]; exact k2_hasslot (q4 f hN)) rfl rfl hd fun H' e1 e2 e3 => fin H' _ e1 e2 e3
theorem jh_iast (cx : jcx D dA b b0 L xs p s m args meth c mi) (hW : jWd D dA b b0 h H) (hS : va_S (fun q => b0 ≤ q) s.heap H locs) {a n : Nat} {f : Nat → Int32} {j x : Int32} (ha : h[a]? = some (.inl (0, n, .inl f))) (hj : jin j n = true) (hd : decode (jm_code mi) pc = .ok (.iastore, 1))
    (kk : jKH p l e R s m args below meth c cells slots Q D dA b b0 (h.set a (.inl (0, n, .inl (upd f j.toNatClampNeg x)))) (F0 m (pc + 1) ls rest)) : W p l e R s m args below meth c H locs cells slots Q (F0 m pc ls (.int x :: .int j :: .ref (b0 + a) :: rest)) := by
  obtain ⟨hx, hb, hml, hown, hts, hK, hov, hin, hX, hbs⟩ := cx
  have ht := jtys_get (dA := dA) (t := 0) (Nat.lt_of_lt_of_le (by decide) jm_nat2)
  rw [jm_aty0] at ht
  have hP : H[b0 + a]? = some (arrV (dA 0) n (fun i => .int (f i))) := hW.at ha
  refine W.iast hx hb hP ((hK.2 0 _ ht).1 n (fun i => .int (f i))) (fun q => by cases q) (by rw [arrV_size]; exact jin_spec hj) rfl rfl hd fun H1 e1 z oq => ?_
  refine kk H1 _ (hW.set ha ?_ z oq) (hS.put z oq (Nat.le_add_right b0 a))
  show H1[b0 + a]? = some (arrV (dA 0) n (fun i => .int (upd f j.toNatClampNeg x i)))
  rw [e1, arrV_store]
  refine congrArg (fun g => some (arrV (dA 0) n g)) (funext fun q => ?_)
  by_cases hq : q = j.toNatClampNeg
  · subst hq
    simp [updV, upd]
  · simp [updV, upd, hq]
theorem jh_bast (cx : jcx D dA b b0 L xs p s m args meth c mi) (hW : jWd D dA b b0 h H) (hS : va_S (fun q => b0 ≤ q) s.heap H locs) {a n : Nat} {f : Nat → Int32} {j x : Int32} (ha : h[a]? = some (.inl (1, n, .inl f))) (hj : jin j n = true) (hz : x = 0 ∨ x = 1) (hd : decode (jm_code mi) pc = .ok (.bastore, 1))
    (kk : jKH p l e R s m args below meth c cells slots Q D dA b b0 (h.set a (.inl (1, n, .inl (upd f j.toNatClampNeg x)))) (F0 m (pc + 1) ls rest)) : W p l e R s m args below meth c H locs cells slots Q (F0 m pc ls (.int x :: .int j :: .ref (b0 + a) :: rest)) := by
  obtain ⟨hx, hb, hml, hown, hts, hK, hov, hin, hX, hbs⟩ := cx
  have ht := jtys_get (dA := dA) (t := 1) (Nat.lt_of_lt_of_le (by decide) jm_nat2)
  rw [jm_aty1] at ht
  have hP : H[b0 + a]? = some (arrV (dA 1) n (fun i => .int (f i))) := hW.at ha
  have hnz : narrow .boolean (.int x) = .int x := by
    rcases hz with rfl | rfl <;> decide +kernel
  refine W.zast hx hb hP ((hK.2 1 _ ht).1 n (fun i => .int (f i))) (fun q => by cases q) (by rw [arrV_size]; exact jin_spec hj) rfl rfl hd fun H1 e1 z oq => ?_
  refine kk H1 _ (hW.set ha ?_ z oq) (hS.put z oq (Nat.le_add_right b0 a))
  show H1[b0 + a]? = some (arrV (dA 1) n (fun i => .int (upd f j.toNatClampNeg x i)))
  rw [e1, arrV_store, hnz]
  refine congrArg (fun g => some (arrV (dA 1) n g)) (funext fun q => ?_)
  by_cases hq : q = j.toNatClampNeg
  · subst hq
    simp [updV, upd]
  · simp [updV, upd, hq]
theorem jh_aast (cx : jcx D dA b b0 L xs p s m args meth c mi) (hW : jWd D dA b b0 h H) (hS : va_S (fun q => b0 ≤ q) s.heap H locs) {a n t v ci : Nat} {vs : List Value} {f : Nat → Option Nat} {j : Int32} (ha : h[a]? = some (.inl (t, n, .inr (.inr (.inr (.inr f)))))) (hv : h[v]? = some (.inr (ci, vs))) (he : jm_ael t = some ci) (ht : t < jm_nat) (hj : jin j n = true) (hd : decode (jm_code mi) pc = .ok (.aastore, 1))
    (kk : jKH p l e R s m args below meth c cells slots Q D dA b b0 (h.set a (.inl (t, n, .inr (.inr (.inr (.inr (va_up f j.toNatClampNeg (some v)))))))) (F0 m (pc + 1) ls rest)) : W p l e R s m args below meth c H locs cells slots Q (F0 m pc ls (.ref (b0 + v) :: .int j :: .ref (b0 + a) :: rest)) := by
  obtain ⟨hx, hb, hml, hown, hts, hK, hov, hin, hX, hbs⟩ := cx
  obtain ⟨r, hr, hty⟩ := jm_ael_ok t ci he
  have hvi := jin_spec hj
  have hlt : j.toNatClampNeg < n := Nat.not_le.mp fun q => hvi (Or.inr q)
  have h0 : ¬ j < 0 := fun q => hvi (Or.inl q)
  obtain ⟨r', hr', cellV, g1, g2, g3, -⟩ := hW.at hv
  have hcls := (hK.1 ci r hr).2
  have hK2 := (hK.2 t _ (jtys_get ht)).2
  simp only [hty] at hK2
  obtain ⟨kA, comp, k1, k2, k3, -⟩ := hK2
  have hcomp : comp = D.1 ci := Option.some.inj (k3.symm.trans hcls.1)
  subst hcomp
  obtain ⟨kC, hkC, -⟩ := hcls.2
  have hP : H[b0 + a]? = some (arrV (dA t) n (fun i => va_rf ((f i).map (fun a => b0 + a)))) := hW.at ha
  refine W.aast hx hb hP (fun q h => by cases h) (fun h => by cases h) k1 k2 rfl hkC ⟨h0, by rw [arrV_size]; exact hlt⟩ g1 (fun q h => by rw [g3] at h; cases h) (by rw [g2]; exact hkC) (by rw [g2]; exact va_assign hcls) rfl rfl hd fun H1 e1 z oq => ?_
  refine kk H1 _ (hW.set ha ?_ z oq) (hS.put z oq (Nat.le_add_right b0 a))
  show H1[b0 + a]? = some (arrV (dA t) n (fun i => va_rf ((va_up f j.toNatClampNeg (some v) i).map (fun a => b0 + a))))
  rw [e1, arrV_store]
  refine congrArg (fun g => some (arrV (dA t) n g)) (funext fun q => ?_)
  by_cases hq : q = j.toNatClampNeg
  · subst hq
    simp [updV, va_up, va_rf]
  · simp [updV, va_up, hq]
end JP
