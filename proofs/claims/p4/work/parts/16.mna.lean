theorem jmna_outer (c : ClassId) (N h0 : Nat) : ∀ i : Nat, Jvm.Free.Multi.outerC c N h0 i = arrV c N (fun j => va_rf (if j < i then some (h0 + 1 + j) else none))
  | 0 => by
    show ({ cls := c, slots := Array.replicate N .null, vm := .none } : Cell) = _
    rw [arrV_new]
    exact congrArg (arrV c N) (funext fun j => by simp [va_rf])
  | i + 1 => by
    show (Jvm.Free.Multi.outerC c N h0 i).setSlot i (.ref (h0 + 1 + i)) = _
    rw [jmna_outer c N h0 i, arrV_store]
    refine congrArg (arrV c N) (funext fun j => ?_)
    by_cases e : j = i
    · subst e
      simp [updV, va_rf]
    · have : (j < i + 1) = (j < i) := propext ⟨fun h => by omega, fun h => by omega⟩
      simp [updV, e, this]
theorem jmna (l : Launch) : jMna l := by
  intro p e R s m args below meth c H locs cells slots Q D dA b b0 L mi pc xs ls rest h idx t n w cx hW hS hq hn hw hn2 hw2 hd hcells hslots kk
  obtain ⟨hx, hb, hml, hown, hts, hK, hov, hin, hX, hbs⟩ := cx
  obtain ⟨t2, ht, hty, hlk, har⟩ := jm_mna_ok _ _ _ hq
  intro T hT X
  obtain ⟨vm₁, cA, comp, -, fA, fC, hO, -, X', step⟩ := X.multianewarray2F hx (ty := .int) hown (hts _ hlk) hov.2.1 (hts _ har) (g := F0 m pc ls (.int w :: .int n :: rest)) rfl (by rw [hb]; exact hd) rfl hn hw (by omega) (by show w.toNatClampNeg * 4 ≤ _; omega) (by omega) rfl rfl hcells hslots
  have hTh : (T.setVm vm₁).heap = H := hT
  have hK1 := (hK.2 t.1 _ (jtys_get ht)).2
  rw [hty] at hK1
  have hcA : cA = dA t.1 := Option.some.inj (fA.symm.trans hK1)
  have hK0 := (hK.2 0 _ (jtys_get (dA := dA) (t := 0) (Nat.lt_of_lt_of_le (by decide) jm_nat2))).2
  have hcy : comp = dA 0 := Option.some.inj (fC.symm.trans hK0)
  subst hcA
  subst hcy
  generalize hF : Jvm.Free.Multi.fill (T.setVm vm₁) (dA t.1) (dA 0) n.toNatClampNeg w.toNatClampNeg (defaultValue .int) n.toNatClampNeg = F at X' step
  obtain ⟨f1, f2, -, -⟩ := Jvm.Free.Multi.fill_facts (T.setVm vm₁) (dA t.1) (dA 0) n.toNatClampNeg w.toNatClampNeg (defaultValue .int) n.toNatClampNeg
  rw [hF, hTh] at f1 f2
  have hold : ∀ x : Nat, x < H.size → F.heap[x]? = H[x]? := fun x hx9 => by
    have := Jvm.Free.Multi.fill_old (T.setVm vm₁) (dA t.1) (dA 0) n.toNatClampNeg w.toNatClampNeg (defaultValue .int) (a := x) (by rw [hTh]; exact hx9) n.toNatClampNeg
    rw [hF, hTh] at this
    exact this
  have hrow : ∀ j : Nat, j < n.toNatClampNeg → F.heap[H.size + 1 + j]? = some (arrV (dA 0) w.toNatClampNeg (fun _ => .int 0)) := fun j hj => by
    have := Jvm.Free.Multi.fill_inner (T.setVm vm₁) (dA t.1) (dA 0) n.toNatClampNeg w.toNatClampNeg (defaultValue .int) n.toNatClampNeg j hj
    rw [hF, hTh] at this
    rw [this]
    show some ({ cls := dA 0, slots := Array.replicate w.toNatClampNeg (.int 0), vm := .none } : Cell) = _
    rw [arrV_new]
  rw [jmna_outer] at f2
  have hsz := hW.2
  have hWd : jWd D dA b b0 ((h ++ [.inl (t.1, n.toNatClampNeg, .inr (.inr (.inr (.inr (fun i => if i < n.toNatClampNeg then some (h.length + 1 + i) else none)))))]) ++ List.replicate n.toNatClampNeg (.inl (0, w.toNatClampNeg, .inl (fun _ => 0)))) F.heap := by
    refine ⟨fun k q hk => ?_, by rw [f1, hsz, List.length_append, List.length_append, List.length_replicate]; simp only [List.length_cons, List.length_nil]; omega⟩
    obtain ⟨c', hc', rfl⟩ := jw_inv hk
    by_cases h1 : k < h.length
    · rw [List.getElem?_append_left (by rw [List.length_append]; omega), List.getElem?_append_left h1] at hc'
      exact (hW.at hc').kept (hold _ (by show b0 + k < H.size; omega))
    · by_cases h2 : k = h.length
      · subst h2
        rw [List.getElem?_append_left (by rw [List.length_append]; simp), List.getElem?_append_right (Nat.le_refl _), Nat.sub_self] at hc'
        cases hc'
        show F.heap[b0 + h.length]? = some (arrV (dA t.1) n.toNatClampNeg (fun i => va_rf ((if i < n.toNatClampNeg then some (h.length + 1 + i) else none).map (fun a => b0 + a))))
        rw [← hsz, f2]
        refine congrArg (fun g => some (arrV (dA t.1) n.toNatClampNeg g)) (funext fun j => ?_)
        by_cases hj : j < n.toNatClampNeg
        · rw [if_pos hj, if_pos hj, hsz]
          exact congrArg Value.ref (show b0 + h.length + 1 + j = b0 + (h.length + 1 + j) by omega)
        · rw [if_neg hj, if_neg hj]
          rfl
      · rw [List.getElem?_append_right (by rw [List.length_append]; simp; omega)] at hc'
        rw [List.length_append, List.getElem?_replicate] at hc'
        simp only [List.length_cons, List.length_nil] at hc'
        split at hc'
        · next hlt =>
          cases hc'
          show F.heap[b0 + k]? = some (arrV (dA 0) w.toNatClampNeg (fun _ => .int 0))
          have := hrow (k - (h.length + 1)) (by omega)
          rw [hsz, show b0 + h.length + 1 + (k - (h.length + 1)) = b0 + k by omega] at this
          exact this
        · cases hc'
  obtain ⟨t9, a1, b1⟩ := kk F.heap locs hWd ⟨by rw [f1]; have := hS.1; omega, fun x h1 h2 => (hold x (Nat.lt_of_lt_of_le h1 hS.1)).trans (hS.2.1 x h1 h2), hS.2.2⟩ F rfl (by
    rw [show cells + (1 + n.toNatClampNeg) = cells + 1 + n.toNatClampNeg by omega, show slots + (n.toNatClampNeg + n.toNatClampNeg * w.toNatClampNeg) = slots + n.toNatClampNeg + n.toNatClampNeg * w.toNatClampNeg by omega]
    exact X')
  refine ⟨t9, step t9 ?_, b1⟩
  have e : T.heap.size = b0 + h.length := by rw [hT]; exact hsz
  rw [e]
  exact a1
