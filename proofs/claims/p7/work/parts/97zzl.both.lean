/-! .. and the class's -/
theorem cJ_low {σ τ : kS} {n R S C : Nat} (e : ∀ c, c < 232 → τ c = σ c) (h : cJ σ n R S C) : cJ τ n R S C := by
  obtain ⟨h1, h2, h3, h4, h5, h6, h7, h8, h9, h10, h11⟩ := h
  have hg : ∀ z, z < n → τ 8 z = σ 8 z := fun z _ => by rw [e _ (by decide)]
  have hgt : ∀ g, 200 ≤ g → τ 2 g = σ 2 g ∧ τ 3 g = σ 3 g ∧ τ 4 g = σ 4 g ∧ τ 6 g = σ 6 g := fun g _ => by
    rw [e 2 (by decide), e 3 (by decide), e 4 (by decide), e 6 (by decide)]
    exact ⟨rfl, rfl, rfl, rfl⟩
  refine ⟨cT_eq (by rw [e 1 (by decide)]) (e _ (by decide)) (fun u _ => ⟨by rw [e 2 (by decide)], by rw [e 3 (by decide)], by rw [e 4 (by decide)], by rw [e 8 (by decide)], by rw [e 12 (by decide)], by rw [e 6 (by decide)]⟩) h1, cRo_gr (Nat.le_refl _) (fun c c1 c2 => e c (by omega)) h2, cSe_eq hg (by rw [e 13 (by decide)]) (e _ (by decide)) (e _ (by decide)) h3, cCl_eq (by rw [e 13 (by decide)]) (fun c c1 c2 => e c (by omega)) h4, cKn_eq (by rw [e 13 (by decide)]) h5, cKw_eq (by decide) (e _ (by decide)) (e _ (by decide)) (e _ (by decide)) hgt h6, cKw_eq (by decide) (e _ (by decide)) (e _ (by decide)) (e _ (by decide)) hgt h7, cKw_eq (by decide) (e _ (by decide)) (e _ (by decide)) (e _ (by decide)) hgt h8, ?_, cSr_eq hg (by rw [e 196 (by decide)]) (e _ (by decide)) (e _ (by decide)) (e _ (by decide)) (by rw [e 195 (by decide)]) (e _ (by decide)) h10, cQ_eq (e _ (by decide)) (e _ (by decide)) h11⟩
  unfold cRu
  rw [e 181 (by decide), e 183 (by decide), e 182 (by decide), e 186 (by decide)]
  rcases h9 with q | ⟨q1, q2, q3, q4⟩
  · exact Or.inl q
  · refine Or.inr ⟨q1, q2, cV_eq hg q3, ?_⟩
    rcases q4 with q4 | ⟨g, g1, g2, g3⟩
    · exact Or.inl q4
    · refine Or.inr ⟨g, g1, g2, fun hgn => ?_⟩
      obtain ⟨u, u1, u2, u3⟩ := g3 hgn
      exact ⟨u, u1, u2, cKg_eq hg (fun g _ _ => ⟨by rw [e 3 (by decide)], by rw [e 4 (by decide)]⟩) u3⟩
/-- both hold together, with as many ROLES -/
def bI2 (σ : kS) : Prop := ∃ R, (∃ n S C, cJ σ n R S C) ∧ ∃ n b S C kl, mI σ n b R S C kl
