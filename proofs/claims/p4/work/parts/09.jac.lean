section JAC
variable {p : Program} {l : Launch} {e : Env} {R : Room} {s : State} {m : MethodId} {args : Array Value} {below : List Frame} {meth : Method} {c : Code} {H : Heap} {locs : List Loc} {cells slots : Nat} {Q : State → Prop}
variable {D : va_G} {dA : Nat → ClassId} {b b0 L mi pc : Nat} {xs : Nat → Int32} {ls : Array Slot} {rest : List Value} {h : List jC}
theorem jn_nn {z : Int32} (hz : ¬ z < 0) : z.toInt = (z.toNatClampNeg : Int) := by
  have h1 : (0 : Int) ≤ z.toInt := by
    have := Int32.not_lt.mp hz
    simpa using Int32.le_iff_toInt_le.mp this
  show z.toInt = ((z.toInt.toNat : Nat) : Int)
  omega
set_option maxHeartbeats 1000000 in
theorem jh_copy (cx : jcx D dA b b0 L xs p s m args meth c mi) (hW : jWd D dA b b0 h H) (hS : va_S (fun q => b0 ≤ q) s.heap H locs) (hl : ls.size = jm_maxL mi) {idx a a0 n0 n1 : Nat} {f g : Nat → Int32} {sp dp n : Int32} (ho : jm_ac (jm_own mi) idx = true) (ha0 : h[a0]? = some (.inl (0, n0, .inl f))) (ha : h[a]? = some (.inl (0, n1, .inl g)))
    (h1 : ¬ sp < 0) (h2 : ¬ dp < 0) (h3 : ¬ n < 0) (h4 : sp.toNatClampNeg + n.toNatClampNeg ≤ n0) (h5 : dp.toNatClampNeg + n.toNatClampNeg ≤ n1) (hd : decode (jm_code mi) pc = .ok (.invokestatic idx, 3)) (hfr : 1 ≤ R.frames) (hlo : 40 ≤ R.locals) (hcat : (rest.map fun v => v.category).sum ≤ 8)
    (kk : jKH p l e R s m args below meth c cells slots Q D dA b b0 (h.set a (.inl (0, n1, .inl (va_cpy f g sp.toNatClampNeg dp.toNatClampNeg n.toNatClampNeg)))) (F0 m (pc + 3) ls rest)) : W p l e R s m args below meth c H locs cells slots Q (F0 m pc ls (.int n :: .int dp :: .ref (b0 + a) :: .int sp :: .ref (b0 + a0) :: rest)) := by
  obtain ⟨hx, hb, hml, hown, hts, hK, hov, hin, hX, hbs⟩ := cx
  obtain ⟨g1, g2, g3, g4⟩ := jm_ac_ok _ _ ho
  have ht := jtys_get (dA := dA) (t := 0) (Nat.lt_of_lt_of_le (by decide) jm_nat2)
  rw [jm_aty0] at ht
  have hc0 : H[b0 + a0]? = some (arrV (dA 0) n0 (fun j => .int (f j))) := hW.at ha0
  have hc1 : H[b0 + a]? = some (arrV (dA 0) n1 (fun j => .int (g j))) := hW.at ha
  intro T hT X
  obtain ⟨-, k0, hk0, cm0, hkk0⟩ := (hK.2 0 _ ht).1 n0 (fun j => .int (f j))
  obtain ⟨-, k1, hk1, cm1, hkk1⟩ := (hK.2 0 _ ht).1 n1 (fun j => .int (g j))
  have hrd : ∀ i, i < n.toNatClampNeg → (arrV (dA 0) n0 (fun j => .int (f j))).slots.getD (sp.toNatClampNeg + i) .null = .int (f (sp.toNatClampNeg + i)) := fun i hi => by
    rw [Array.getD_eq_getD_getElem?, arrV_read _ _ (by omega)]
    rfl
  obtain ⟨vm', X', step⟩ := X.arraycopy hx hown (hts _ g1) (hts _ g2) (hts _ g3) (hts _ g4) (src := b0 + a0) (dst := b0 + a) (srcPos := sp) (destPos := dp) (n := n) (by rw [hT]; exact hc0) (by rw [hT]; exact hc1)
    (fun _ h => by cases h) (fun _ h => by cases h) (fun h => by cases h) (fun h => by cases h) hk0 hk1 hkk0 hkk1 (by simp [refKind]) h1 h2 h3
    (by rw [jn_nn h1, jn_nn h3, arrV_size]; omega)
    (by rw [jn_nn h2, jn_nn h3, arrV_size]; omega)
    (fun vm₁ _ i hi => by rw [hrd i hi]; exact ⟨rfl, trivial⟩)
    (g := F0 m pc ls (.int n :: .int dp :: .ref (b0 + a) :: .int sp :: .ref (b0 + a0) :: rest)) rfl (by rw [hml]; exact hl) (rest := rest) rfl (by rw [hb]; exact hd) hfr (by
      have : nativeFrameWords "java/lang/System" "arraycopy" 5 + 11 ≤ 32 := by decide +kernel
      show 2 * 0 + _ + _ ≤ _
      omega)
  have e1 : copied (arrV (dA 0) n0 (fun j => .int (f j))) (arrV (dA 0) n1 (fun j => .int (g j))) sp dp n = arrV (dA 0) n1 (fun j => .int (va_cpy f g sp.toNatClampNeg dp.toNatClampNeg n.toNatClampNeg j)) := va_copied (fun z => .int z) (dA 0) (dA 0) f g h4
  rw [e1] at X' step
  have hlt : b0 + a < H.size := (Array.getElem?_eq_some_iff.mp hc1).1
  obtain ⟨t, a1, b1⟩ := kk (H.setIfInBounds (b0 + a) (arrV (dA 0) n1 (fun j => .int (va_cpy f g sp.toNatClampNeg dp.toNatClampNeg n.toNatClampNeg j)))) _
    (hW.set ha (show (H.setIfInBounds (b0 + a) (arrV (dA 0) n1 (fun j => .int (va_cpy f g sp.toNatClampNeg dp.toNatClampNeg n.toNatClampNeg j))))[b0 + a]? = some (arrV (dA 0) n1 (fun j => .int (va_cpy f g sp.toNatClampNeg dp.toNatClampNeg n.toNatClampNeg j))) by simp [Array.getElem?_setIfInBounds, hlt]) (by simp) (fun q hq => by simp [Array.getElem?_setIfInBounds, Ne.symm hq]))
    ⟨by simp; exact hS.1, fun q q1 q2 => by
      have hq : ¬ b0 + a = q := fun z => q2 (by show b0 ≤ q; omega)
      simp [Array.getElem?_setIfInBounds, hq]
      exact hS.2.1 q q1 q2, fun q hq => by
      rcases List.mem_append.mp hq with z | z
      · exact hS.2.2 q z
      · obtain ⟨y, -, hy⟩ := List.mem_map.mp z
        rw [← hy]
        exact Nat.le_add_right b0 a⟩ _ (by rw [← hT]; rfl) X'
  exact ⟨t, step t a1, b1⟩
end JAC
