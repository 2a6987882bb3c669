/-! the reference: the TERMS without numbers in their order: isOpen, lastOf -/
set_option maxRecDepth 100000 in
set_option maxHeartbeats 4000000 in
theorem mr_isOpen (L : Nat) (xs : Nat → Int32) (d : Nat) (σ : kS) (u : Nat) (hu : u < 1000) : kXM kT L xs (d + 1) 200 [.ref 232, .int (nI u)] σ (fun r σ' => r = some (.int (isB (200 ≤ u ∧ σ 280 u = 0))) ∧ σ = σ') := by
  unfold kXM
  repeat refine kX_one rfl ?_
  refine kX_if (fun q => ?_) (fun q => ?_)
  · have q := qlt q u 200
    repeat refine kX_one rfl ?_
    refine kX_ret (i := .ireturn) (len := 1) rfl (Or.inr rfl) rfl (⟨by rw [isB_F (fun z => by omega)]; rfl, rfl⟩)
  · have q := qltF q u 200
    repeat refine kX_one rfl ?_
    refine kX_baldN rfl rfl (by decide) (u) (by first | rfl | decide) (hu) ?_
    repeat refine kX_one rfl ?_
    refine kX_if (fun q2 => ?_) (fun q2 => ?_)
    · repeat refine kX_one rfl ?_
      refine kX_ret (i := .ireturn) (len := 1) rfl (Or.inr rfl) rfl (⟨by rw [isB_F (fun z => qne q2 z.2)]; rfl, rfl⟩)
    · repeat refine kX_one rfl ?_
      refine kX_ret (i := .ireturn) (len := 1) rfl (Or.inr rfl) rfl (⟨by rw [isB_T ⟨q, qneF q2⟩]; rfl, rfl⟩)
set_option maxRecDepth 100000 in
set_option maxHeartbeats 4000000 in
theorem mr_isOpenN (L : Nat) (xs : Nat → Int32) (d : Nat) (σ : kS) : kXM kT L xs (d + 1) 200 [.ref 232, .int (-1)] σ (fun r σ' => r = some (.int 0) ∧ σ = σ') := by
  unfold kXM
  repeat refine kX_one rfl ?_
  refine kX_ret (i := .ireturn) (len := 1) rfl (Or.inr rfl) rfl (⟨rfl, rfl⟩)
set_option maxRecDepth 100000 in
set_option maxHeartbeats 4000000 in
theorem mr_lastOf (L : Nat) (xs : Nat → Int32) (d : Nat) (σ : kS) (x y : Int32) : kXM kT L xs (d + 1) 202 [.ref 232, .int x, .int y] σ (fun r σ' => r = some (.int (if x < 0 then x + 1000 else y + x)) ∧ σ = σ') := by
  unfold kXM
  repeat refine kX_one rfl ?_
  refine kX_if (fun q => ?_) (fun q => ?_)
  · have q : ¬ x < 0 := fun z => by
      have := of_decide_eq_true q
      exact absurd z (Int32.not_lt.mpr this)
    repeat refine kX_one rfl ?_
    refine kX_ret (i := .ireturn) (len := 1) rfl (Or.inr rfl) rfl (⟨by rw [if_neg q], rfl⟩)
  · have q : x < 0 := Int32.not_le.mp (of_decide_eq_false q)
    repeat refine kX_one rfl ?_
    refine kX_ret (i := .ireturn) (len := 1) rfl (Or.inr rfl) rfl (⟨by rw [if_pos q]; rfl, rfl⟩)
