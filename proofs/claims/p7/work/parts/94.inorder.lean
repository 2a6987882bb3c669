/-! the reference: inOrder -/
set_option maxRecDepth 100000 in
set_option maxHeartbeats 4000000 in
theorem mr_inOrderN (L : Nat) (xs : Nat → Int32) (d : Nat) (σ : kS) (t : Nat) (ht : t < 200) : kXM kT L xs (d + 1) 201 [.ref 232, .int (nI t)] σ (fun r σ' => r = some (.int (nI t - 1000)) ∧ σ = σ') := by
  unfold kXM
  repeat refine kX_one rfl ?_
  refine kX_if (fun q => ?_) (fun q => ?_)
  · have q := qge q t 200
    omega
  · repeat refine kX_one rfl ?_
    refine kX_ret (i := .ireturn) (len := 1) rfl (Or.inr rfl) rfl (⟨rfl, rfl⟩)
set_option maxRecDepth 100000 in
set_option maxHeartbeats 4000000 in
theorem mr_inOrder (L : Nat) (xs : Nat → Int32) (d : Nat) (σ : kS) (l : List Nat) (i : Nat) (hi : i < l.length) (hl : lst (σ 279) l) (h600 : l.length ≤ 600) (h200 : 200 ≤ l[i]) (h1000 : ∀ t ∈ l, t < 1000) (hf : ∀ j (hj : j < l.length), j < i → l[j] ≠ l[i]) : kXM kT L xs (d + 1) 201 [.ref 232, .int (nI l[i])] σ (fun r σ' => r = some (.int (nI i)) ∧ σ = σ') := by
  unfold kXM
  have hlt := h1000 _ (List.getElem_mem hi)
  have loop : ∀ k, k ≤ i → kX kT L xs (d + 1) 201 15 [(2, .int (nI k)), (0, .ref 232), (1, .int (nI l[i]))] [] σ (fun r σ' => r = some (.int (nI i)) ∧ σ = σ') := by
    refine kX_while (fun k : Nat => [(2, .int (nI k)), (0, .ref 232), (1, .int (nI l[i]))]) (fun _ => σ) _ (fun k => i - k) ?_
    intro k hk ih
    have hkl : k < l.length := by omega
    have hkt := h1000 _ (List.getElem_mem hkl)
    iterate 3 (refine kX_one rfl ?_)
    refine kX_ialdV rfl rfl (by decide) (k) (by first | rfl | decide) (by omega) (hl k hkl) ?_
    repeat refine kX_one rfl ?_
    refine kX_if (fun q => ?_) (fun q => ?_)
    · have q : l[k] = l[i] := nI_inj (qeq q)
      have : k = i := Decidable.byContradiction (fun e => hf k hkl (by omega) q)
      subst this
      repeat refine kX_one rfl ?_
      refine kX_ret (i := .ireturn) (len := 1) rfl (Or.inr rfl) rfl (⟨rfl, rfl⟩)
    · have q : l[k] ≠ l[i] := fun e => qeqF q (by rw [e])
      have hki : k ≠ i := fun e => by
        subst e
        exact q rfl
      iterate 2 (refine kX_one rfl ?_)
      have := ih (k + 1) (by omega) (by omega)
      rw [← nI_1] at this
      exact kX_lv _ rfl rfl rfl this
  repeat refine kX_one rfl ?_
  refine kX_if (fun q => ?_) (fun q => ?_)
  · iterate 2 (refine kX_one rfl ?_)
    exact kX_lv _ rfl rfl rfl (loop 0 (Nat.zero_le _))
  · have q := qgeF q l[i] 200
    omega
