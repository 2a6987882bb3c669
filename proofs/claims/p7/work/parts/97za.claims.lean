/-! the class: forget, clear, VARIABLES, CLAIMS -/
/-- cells of the search -/
theorem cJ_sr {σ τ : kS} {n R S C : Nat} (h : cJ σ n R S C) (e : ∀ c, c ≠ 195 → c ≠ 196 → c ≠ 201 → τ c = σ c) (hr : cSr τ n S) : cJ τ n R S C := by
  obtain ⟨h1, h2, h3, h4, h5, h6, h7, h8, h9, h10, h11⟩ := h
  have hg : ∀ z, z < n → τ 8 z = σ 8 z := fun z _ => by rw [e _ (by decide) (by decide) (by decide)]
  have hgt : ∀ g, 200 ≤ g → τ 2 g = σ 2 g ∧ τ 3 g = σ 3 g ∧ τ 4 g = σ 4 g ∧ τ 6 g = σ 6 g := fun g _ => by
    rw [e 2 (by decide) (by decide) (by decide), e 3 (by decide) (by decide) (by decide), e 4 (by decide) (by decide) (by decide), e 6 (by decide) (by decide) (by decide)]
    exact ⟨rfl, rfl, rfl, rfl⟩
  refine ⟨cT_eq (by rw [e 1 (by decide) (by decide) (by decide)]) (e _ (by decide) (by decide) (by decide)) (fun u _ => ?_) h1, cRo_gr (Nat.le_refl _) (fun c c1 c2 => e c (by omega) (by omega) (by omega)) h2, cSe_eq hg (by rw [e 13 (by decide) (by decide) (by decide)]) (e _ (by decide) (by decide) (by decide)) (e _ (by decide) (by decide) (by decide)) h3, cCl_eq (by rw [e 13 (by decide) (by decide) (by decide)]) (fun c c1 c2 => e c (by omega) (by omega) (by omega)) h4, cKn_eq (by rw [e 13 (by decide) (by decide) (by decide)]) h5, cKw_eq (by decide) (e _ (by decide) (by decide) (by decide)) (e _ (by decide) (by decide) (by decide)) (e _ (by decide) (by decide) (by decide)) hgt h6, cKw_eq (by decide) (e _ (by decide) (by decide) (by decide)) (e _ (by decide) (by decide) (by decide)) (e _ (by decide) (by decide) (by decide)) hgt h7, cKw_eq (by decide) (e _ (by decide) (by decide) (by decide)) (e _ (by decide) (by decide) (by decide)) (e _ (by decide) (by decide) (by decide)) hgt h8, cRu_eq hg (e _ (by decide) (by decide) (by decide)) (e _ (by decide) (by decide) (by decide)) (e _ (by decide) (by decide) (by decide)) (by rw [e 186 (by decide) (by decide) (by decide)]) (fun g g1 _ => ⟨(hgt g g1).2.1, (hgt g g1).2.2.1⟩) h9, hr, cQ_eq (e _ (by decide) (by decide) (by decide)) (e _ (by decide) (by decide) (by decide)) h11⟩
  rw [e 2 (by decide) (by decide) (by decide), e 3 (by decide) (by decide) (by decide), e 4 (by decide) (by decide) (by decide), e 8 (by decide) (by decide) (by decide), e 12 (by decide) (by decide) (by decide), e 6 (by decide) (by decide) (by decide)]
  exact ⟨rfl, rfl, rfl, rfl, rfl, rfl⟩
set_option maxRecDepth 100000 in
set_option maxHeartbeats 4000000 in
theorem mc_forget (L : Nat) (xs : Nat → Int32) (d : Nat) (σ : kS) : kXM kT L xs (d + 3) 79 [.ref 195] σ (fun r σ' => r = none ∧ σ' 196 5 = 0 ∧ σ' 195 9 = -1 ∧ σ' 195 10 = 0 ∧ σ' 195 12 = 0 ∧ ∀ c, c ≠ 195 → c ≠ 196 → c ≠ 201 → σ' c = σ c) := by
  unfold kXM
  iterate 2 (refine kX_one rfl ?_)
  have hem : kXM kT L xs (d + 2) 87 [.ref 196] σ (fun r σ' => r = none ∧ σ' 196 5 = 0 ∧ σ' 195 = σ 195 ∧ ∀ c, c ≠ 196 → c ≠ 201 → σ' c = σ c) := by
    unfold kXM
    iterate 6 (refine kX_one rfl ?_)
    refine kX_cal (kX_fill (T := kT) L xs d (-1) _ (a := 201) (n := 1024) (g0 := fun _ => 0) rfl (by decide)) rfl (Or.inr rfl) rfl rfl rfl (fun r1 σ1 q1 => ?_)
    obtain ⟨rfl, rfl⟩ := q1
    refine kX_ret (i := .return_) (len := 1) rfl (Or.inr rfl) rfl ⟨rfl, rfl, rfl, fun c c1 c2 => ?_⟩
    unfold va_up
    rw [if_neg c2, if_neg c1]
  refine kX_cal hem rfl (Or.inr rfl) rfl rfl rfl (fun r1 ρ q1 => ?_)
  obtain ⟨rfl, g1, g2, g3⟩ := q1
  repeat refine kX_one rfl ?_
  refine kX_ret (i := .return_) (len := 1) rfl (Or.inr rfl) rfl ⟨rfl, g1, rfl, rfl, rfl, fun c c1 c2 c3 => ?_⟩
  unfold va_up
  rw [if_neg c1, if_neg c1, if_neg c1, if_neg c1]
  exact g3 c c2 c3
theorem cSr_0 {τ : kS} {n S : Nat} (h1 : τ 196 5 = 0) (h2 : τ 195 9 = -1) : cSr τ n S := ⟨0, by omega, h1, fun i hi => absurd hi (Nat.not_lt_zero i), fun i _ hi => absurd hi (Nat.not_lt_zero i), Or.inl h2⟩
set_option maxRecDepth 100000 in
set_option maxHeartbeats 4000000 in
theorem mk_clear (L : Nat) (xs : Nat → Int32) (d : Nat) (σ : kS) (n R S C : Nat) (h : cJ σ n R S C) : kXM kT L xs (d + 4) 138 [.ref 0] σ (fun r σ' => (∃ x, r = some (.int x)) ∧ cAfter σ σ' 0) := by
  obtain ⟨h1, h2, h3, h4, h5, h6, h7, h8, h9, h10, h11⟩ := h
  unfold kXM
  iterate 10 (refine kX_one rfl ?_)
  refine kX_cal (mc_forget L xs d _) rfl (Or.inr rfl) rfl rfl rfl (fun r1 ρ q1 => ?_)
  obtain ⟨rfl, g1, g2, -, -, g3⟩ := q1
  have hoth : ∀ c, c ≠ 181 → c ≠ 195 → c ≠ 196 → c ≠ 201 → ρ c = σ c := fun c c0 c1 c2 c3 => by
    rw [g3 c c1 c2 c3]
    unfold va_up
    rw [if_neg c0]
  have hon : ρ 181 8 = 0 := by
    rw [g3 181 (by decide) (by decide) (by decide)]
    rfl
  iterate 2 (refine kX_one rfl ?_)
  have hbe : kXM kT L xs (d + 3) 2 [.ref 13] ρ (fun r σ' => r = none ∧ σ' = va_up ρ 13 (upd (upd (upd (upd (ρ 13) 2 0) 6 0) 8 0) 10 0)) := by
    unfold kXM
    repeat refine kX_one rfl ?_
    refine kX_ret (i := .return_) (len := 1) rfl (Or.inr rfl) rfl ⟨rfl, ?_⟩
    funext c; unfold  va_up; repeat' split
    all_goals first | rfl | omega | (subst_vars; rfl) | (funext j; unfold upd; repeat' split; all_goals first | rfl | omega | (subst_vars; rfl))
  refine kX_cal hbe rfl (Or.inr rfl) rfl rfl rfl (fun r1 ρ2 q1 => ?_)
  obtain ⟨rfl, rfl⟩ := q1
  iterate 2 (refine kX_one rfl ?_)
  have hte : kXM kT L xs (d + 3) 93 [.ref 1] (va_up ρ 13 (upd (upd (upd (upd (ρ 13) 2 0) 6 0) 8 0) 10 0)) (fun r σ' => r = none ∧ (∀ s, s < 256 → σ' 7 s = -1) ∧ σ' 1 11 = 0 ∧ σ' 13 2 = 0 ∧ σ' 13 6 = 0 ∧ σ' 13 8 = 0 ∧ σ' 13 10 = 0 ∧ ∀ c, c ≠ 13 → c ≠ 1 → c ≠ 7 → σ' c = ρ c) := by
    unfold kXM
    iterate 6 (refine kX_one rfl ?_)
    refine kX_cal (kX_fill (T := kT) L xs (d + 1) (-1) _ (a := 7) (n := 256) (g0 := fun _ => 0) rfl (by decide)) rfl (Or.inr rfl) rfl rfl rfl (fun r1 σ1 q1 => ?_)
    obtain ⟨rfl, rfl⟩ := q1
    refine kX_ret (i := .return_) (len := 1) rfl (Or.inr rfl) rfl ⟨rfl, fun s hs => ?_, rfl, rfl, rfl, rfl, rfl, fun c c1 c2 c3 => ?_⟩
    · exact if_pos hs
    · unfold va_up
      rw [if_neg c3, if_neg c2, if_neg c1]
  refine kX_cal hte rfl (Or.inr rfl) rfl rfl rfl (fun r1 τ q1 => ?_)
  obtain ⟨rfl, t1, t2, t3, t4, t5, t6, t7⟩ := q1
  have hall : ∀ c, c ≠ 13 → c ≠ 1 → c ≠ 7 → c ≠ 181 → c ≠ 195 → c ≠ 196 → c ≠ 201 → τ c = σ c := fun c c1 c2 c3 c4 c5 c6 c7 => (t7 c c1 c2 c3).trans (hoth c c4 c5 c6 c7)
  have hk : ∀ c, 186 ≤ c → c ≠ 195 → c ≠ 196 → c ≠ 201 → τ c = σ c := fun c c0 c1 c2 c3 => hall c (by omega) (by omega) (by omega) (by omega) c1 c2 c3
  have hgt : ∀ g, 200 ≤ g → τ 2 g = σ 2 g ∧ τ 3 g = σ 3 g ∧ τ 4 g = σ 4 g ∧ τ 6 g = σ 6 g := fun g _ => by
    rw [hall 2 (by decide) (by decide) (by decide) (by decide) (by decide) (by decide) (by decide), hall 3 (by decide) (by decide) (by decide) (by decide) (by decide) (by decide) (by decide), hall 4 (by decide) (by decide) (by decide) (by decide) (by decide) (by decide) (by decide), hall 6 (by decide) (by decide) (by decide) (by decide) (by decide) (by decide) (by decide)]
    exact ⟨rfl, rfl, rfl, rfl⟩
  repeat refine kX_one rfl ?_
  refine kX_ret (i := .ireturn) (len := 1) rfl (Or.inr rfl) rfl ⟨⟨_, rfl⟩, fun c hc => hk c (by omega) (by omega) (by omega) (by omega), 0, 0, 0, ⟨by omega, t2, fun s hs => Or.inl (t1 s hs), fun t ht => absurd ht (Nat.not_lt_zero t)⟩, ⟨by omega, t3, fun r hr => absurd hr (Nat.not_lt_zero r)⟩, ⟨by omega, t4, fun s hs => absurd hs (Nat.not_lt_zero s), fun s k hs => absurd hs (Nat.not_lt_zero s)⟩, ⟨by omega, t5, fun c hc => absurd hc (Nat.not_lt_zero c)⟩, ⟨0, by omega, t6⟩, cKw_eq (by decide) (hk _ (by decide) (by decide) (by decide) (by decide)) (hk _ (by decide) (by decide) (by decide) (by decide)) (hk _ (by decide) (by decide) (by decide) (by decide)) hgt h6, cKw_eq (by decide) (hk _ (by decide) (by decide) (by decide) (by decide)) (hk _ (by decide) (by decide) (by decide) (by decide)) (hk _ (by decide) (by decide) (by decide) (by decide)) hgt h7, cKw_eq (by decide) (hk _ (by decide) (by decide) (by decide) (by decide)) (hk _ (by decide) (by decide) (by decide) (by decide)) (hk _ (by decide) (by decide) (by decide) (by decide)) hgt h8, Or.inl ?_, cSr_0 ?_ ?_, cQ_eq (hk _ (by decide) (by decide) (by decide) (by decide)) (hk _ (by decide) (by decide) (by decide) (by decide)) h11⟩
  · rw [t7 181 (by decide) (by decide) (by decide)]
    exact hon
  · rw [t7 196 (by decide) (by decide) (by decide)]
    exact g1
  · rw [t7 195 (by decide) (by decide) (by decide)]
    exact g2
