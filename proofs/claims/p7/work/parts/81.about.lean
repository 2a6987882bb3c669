/-! the reference: about -/
set_option maxRecDepth 100000 in
set_option maxHeartbeats 4000000 in
theorem mp_about (L : Nat) (xs : Nat → Int32) (d : Nat) (σ : kS) (n b R S C : Nat) (kl : List Nat) (x y : Int32) (h : mI σ n b R S C kl) : kXM kT L xs (d + 2) 160 [.ref 232, .int x, .int y] σ (fun r σ' => (∃ x, r = some (.int x)) ∧ mAfter σ σ' R) := by
  have h1 := h.1
  have hn := h1.1
  unfold kXM
  repeat refine kX_one rfl ?_
  refine kX_cal (mr_isTerm L xs d σ n x h1.2.2.2.1 (by omega)) rfl (Or.inr rfl) rfl rfl rfl (fun r1 σ1 q1 => ?_)
  obtain ⟨rfl, rfl⟩ := q1
  repeat refine kX_one rfl ?_
  refine kX_if (fun q => ?_) (fun q => ?_)
  · obtain ⟨t, ht, rfl⟩ := isB_ne.mp (qne q)
    have key : ∀ w, kX kT L xs (d + 2) 160 26 [(3, .int w), (0, .ref 232), (1, .int (nI t)), (2, .int y)] [] σ (fun r σ' => (∃ x, r = some (.int x)) ∧ mAfter σ σ' R) := by
      intro w
      by_cases hy : ∃ k, k < 9 ∧ y = nI k
      · obtain ⟨k, hk, rfl⟩ := hy
        have : k = 0 ∨ k = 1 ∨ k = 2 ∨ k = 3 ∨ k = 4 ∨ k = 5 ∨ k = 6 ∨ k = 7 ∨ k = 8 := by omega
        rcases this with rfl | rfl | rfl | rfl | rfl | rfl | rfl | rfl | rfl
        · repeat refine kX_one rfl ?_
          refine kX_ialdN rfl rfl (by decide) (t) (by first | rfl | decide) (by omega) ?_
          repeat refine kX_one rfl ?_
          refine kX_ret (i := .ireturn) (len := 1) rfl (Or.inr rfl) rfl (⟨⟨_, rfl⟩, mAfter_same h⟩)
        · repeat refine kX_one rfl ?_
          refine kX_ialdN rfl rfl (by decide) (t) (by first | rfl | decide) (by omega) ?_
          repeat refine kX_one rfl ?_
          refine kX_if (fun q => ?_) (fun q => ?_)
          · repeat refine kX_one rfl ?_
            refine kX_ialdN rfl rfl (by decide) (t) (by first | rfl | decide) (by omega) ?_
            repeat refine kX_one rfl ?_
            refine kX_ret (i := .ireturn) (len := 1) rfl (Or.inr rfl) rfl (⟨⟨_, rfl⟩, mAfter_same h⟩)
          · repeat refine kX_one rfl ?_
            refine kX_ret (i := .ireturn) (len := 1) rfl (Or.inr rfl) rfl (⟨⟨_, rfl⟩, mAfter_same h⟩)
        · repeat refine kX_one rfl ?_
          refine kX_ialdN rfl rfl (by decide) (t) (by first | rfl | decide) (by omega) ?_
          repeat refine kX_one rfl ?_
          refine kX_if (fun q => ?_) (fun q => ?_)
          · repeat refine kX_one rfl ?_
            refine kX_ialdN rfl rfl (by decide) (t) (by first | rfl | decide) (by omega) ?_
            repeat refine kX_one rfl ?_
            refine kX_ret (i := .ireturn) (len := 1) rfl (Or.inr rfl) rfl (⟨⟨_, rfl⟩, mAfter_same h⟩)
          · repeat refine kX_one rfl ?_
            refine kX_ret (i := .ireturn) (len := 1) rfl (Or.inr rfl) rfl (⟨⟨_, rfl⟩, mAfter_same h⟩)
        · repeat refine kX_one rfl ?_
          refine kX_ialdN rfl rfl (by decide) (t) (by first | rfl | decide) (by omega) ?_
          repeat refine kX_one rfl ?_
          refine kX_ret (i := .ireturn) (len := 1) rfl (Or.inr rfl) rfl (⟨⟨_, rfl⟩, mAfter_same h⟩)
        · repeat refine kX_one rfl ?_
          refine kX_baldN rfl rfl (by decide) (t) (by first | rfl | decide) (by omega) ?_
          repeat refine kX_one rfl ?_
          refine kX_if (fun q => ?_) (fun q => ?_)
          · repeat refine kX_one rfl ?_
            refine kX_ret (i := .ireturn) (len := 1) rfl (Or.inr rfl) rfl (⟨⟨_, rfl⟩, mAfter_same h⟩)
          · repeat refine kX_one rfl ?_
            refine kX_ret (i := .ireturn) (len := 1) rfl (Or.inr rfl) rfl (⟨⟨_, rfl⟩, mAfter_same h⟩)
        · repeat refine kX_one rfl ?_
          refine kX_ialdN rfl rfl (by decide) (t) (by first | rfl | decide) (by omega) ?_
          repeat refine kX_one rfl ?_
          refine kX_if (fun q => ?_) (fun q => ?_)
          · repeat refine kX_one rfl ?_
            refine kX_baldN rfl rfl (by decide) (t) (by first | rfl | decide) (by omega) ?_
            repeat refine kX_one rfl ?_
            refine kX_if (fun q => ?_) (fun q => ?_)
            · repeat refine kX_one rfl ?_
              refine kX_ret (i := .ireturn) (len := 1) rfl (Or.inr rfl) rfl (⟨⟨_, rfl⟩, mAfter_same h⟩)
            · repeat refine kX_one rfl ?_
              refine kX_ret (i := .ireturn) (len := 1) rfl (Or.inr rfl) rfl (⟨⟨_, rfl⟩, mAfter_same h⟩)
          · repeat refine kX_one rfl ?_
            refine kX_ret (i := .ireturn) (len := 1) rfl (Or.inr rfl) rfl (⟨⟨_, rfl⟩, mAfter_same h⟩)
        · repeat refine kX_one rfl ?_
          refine kX_if (fun q => ?_) (fun q => ?_)
          · repeat refine kX_one rfl ?_
            refine kX_ret (i := .ireturn) (len := 1) rfl (Or.inr rfl) rfl (⟨⟨_, rfl⟩, mAfter_same h⟩)
          · repeat refine kX_one rfl ?_
            refine kX_ialdN rfl rfl (by decide) (t) (by first | rfl | decide) (by omega) ?_
            repeat refine kX_one rfl ?_
            refine kX_ret (i := .ireturn) (len := 1) rfl (Or.inr rfl) rfl (⟨⟨_, rfl⟩, mAfter_same h⟩)
        · repeat refine kX_one rfl ?_
          refine kX_if (fun q => ?_) (fun q => ?_)
          · repeat refine kX_one rfl ?_
            refine kX_ret (i := .ireturn) (len := 1) rfl (Or.inr rfl) rfl (⟨⟨_, rfl⟩, mAfter_same h⟩)
          · repeat refine kX_one rfl ?_
            refine kX_ialdN rfl rfl (by decide) (t) (by first | rfl | decide) (by omega) ?_
            repeat refine kX_one rfl ?_
            refine kX_ret (i := .ireturn) (len := 1) rfl (Or.inr rfl) rfl (⟨⟨_, rfl⟩, mAfter_same h⟩)
        · repeat refine kX_one rfl ?_
          refine kX_if (fun q => ?_) (fun q => ?_)
          · repeat refine kX_one rfl ?_
            refine kX_ret (i := .ireturn) (len := 1) rfl (Or.inr rfl) rfl (⟨⟨_, rfl⟩, mAfter_same h⟩)
          · repeat refine kX_one rfl ?_
            refine kX_ialdN rfl rfl (by decide) (t) (by first | rfl | decide) (by omega) ?_
            repeat refine kX_one rfl ?_
            refine kX_ret (i := .ireturn) (len := 1) rfl (Or.inr rfl) rfl (⟨⟨_, rfl⟩, mAfter_same h⟩)
      · iterate 1 (refine kX_one rfl ?_)
        refine kX_tabO rfl (kp_out 9 (fun k hk e => hy ⟨k, hk, e⟩) (by decide)) rfl ?_
        repeat refine kX_one rfl ?_
        refine kX_ret (i := .ireturn) (len := 1) rfl (Or.inr rfl) rfl (⟨⟨_, rfl⟩, mAfter_same h⟩)
    repeat refine kX_one rfl ?_
    refine kX_ialdN rfl rfl (by decide) (t) (by first | rfl | decide) (by omega) ?_
    repeat refine kX_one rfl ?_
    refine kX_if (fun q => ?_) (fun q => ?_)
    · iterate 2 (refine kX_one rfl ?_)
      exact key 0
    · iterate 3 (refine kX_one rfl ?_)
      exact key 1
  · repeat refine kX_one rfl ?_
    refine kX_ret (i := .ireturn) (len := 1) rfl (Or.inr rfl) rfl (⟨⟨_, rfl⟩, mAfter_same h⟩)
