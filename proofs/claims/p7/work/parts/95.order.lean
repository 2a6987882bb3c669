/-! the reference: findOrder, what it begins with -/
set_option maxRecDepth 100000 in
set_option maxHeartbeats 4000000 in
theorem mr_fo_init (L : Nat) (xs : Nat → Int32) (d : Nat) (σ : kS) (n b : Nat) (h : mTb σ n b) (tv : Int32) (Q : Option Value → kS → Prop)
    (he : ∀ I, (∀ j, 200 ≤ j → j < b → I j = 0) → kX kT L xs (d + 1) 199 30 [(0, .ref 232), (1, .int tv)] [] (va_up σ 280 I) Q) :
    ∀ q : Nat × (Nat → Int32), (200 ≤ q.1 ∧ q.1 ≤ b ∧ ∀ j, 200 ≤ j → j < q.1 → q.2 j = 0) → kX kT L xs (d + 1) 199 9 [(2, .int (nI q.1)), (0, .ref 232), (1, .int tv)] [] (va_up σ 280 q.2) Q := by
  have hb := h.2.2.1
  have hbb := h.2.2.2.2.1
  refine kX_while (fun q : Nat × (Nat → Int32) => [(2, .int (nI q.1)), (0, .ref 232), (1, .int tv)]) (fun q => va_up σ 280 q.2) _ (fun q => b - q.1) ?_
  rintro ⟨k, I⟩ ⟨i1, i2, i3⟩ ih
  dsimp only at i1 i2 i3 ih ⊢
  iterate 3 (refine kX_one rfl ?_)
  refine kX_top (hbb) ?_
  repeat refine kX_one rfl ?_
  refine kX_if (fun q => ?_) (fun q => ?_)
  · have q := qge q k b
    exact kX_lv _ rfl rfl rfl (he I (fun j j1 j2 => i3 j j1 (by omega)))
  · have q := qgeF q k b
    iterate 4 (refine kX_one rfl ?_)
    refine kX_bastN rfl rfl (by decide) (k) (by first | rfl | decide) (by omega) (Or.inl rfl) ?_
    iterate 2 (refine kX_one rfl ?_)
    have := ih (k + 1, upd I k 0) ⟨by simp only; omega, q, fun j j1 j2 => by
      simp only at j2 ⊢
      by_cases e : j = k
      · subst e
        exact pk_us
      · rw [pk_un e]
        exact i3 j j1 (by omega)⟩ (by simp only; omega)
    dsimp only at this
    rw [← nI_1] at this
    refine kX_to _ _ rfl rfl rfl ?_ this
    funext c; unfold  va_up; repeat' split
    all_goals first | rfl | omega | (subst_vars; rfl) | (funext j; unfold upd; repeat' split; all_goals first | rfl | omega | (subst_vars; rfl))
