/-! one side's call leaves the other side's invariant -/
def hiS (σ τ : kS) : kS := fun c => if 232 ≤ c then σ c else τ c
theorem mI_hiS {σ τ : kS} {n b R S C : Nat} {kl : List Nat} (h : mI σ n b R S C kl) : mI (hiS σ τ) n b R S C kl := by
  obtain ⟨g1, g2, g3, g4, g5, g6, g7⟩ := h
  refine ⟨g1, g2, g3, g4, g5, ?_, ?_⟩
  · rcases g6 with g6 | ⟨g6, ds, d1, d2, d3⟩
    · exact Or.inl g6
    · refine Or.inr ⟨g6, ds, d1, d2, ?_⟩
      rcases d3 with d3 | ⟨d3, d4, l, l1, l2, l3⟩
      · exact Or.inl d3
      · refine Or.inr ⟨d3, d4, l, l1, l2, ?_⟩
        rw [trRun_eq (σ := σ) (τ := hiS σ τ) ⟨rfl, rfl, rfl, rfl, rfl, rfl, rfl, rfl, rfl⟩, ← l3]
        rfl
  · exact g7
theorem mI_hi {σ τ : kS} {n b R S C : Nat} {kl : List Nat} (e : ∀ c, 232 ≤ c → τ c = σ c) (h : mI σ n b R S C kl) : mI τ n b R S C kl := by
  have : τ = hiS σ τ := funext fun c => by
    unfold hiS
    by_cases hc : 232 ≤ c
    · rw [if_pos hc]
      exact e c hc
    · rw [if_neg hc]
  rw [this]
  exact mI_hiS h
