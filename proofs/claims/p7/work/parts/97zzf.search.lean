/-! the class: start, search -/
theorem cJ_sI {σ τ : kS} {n R S C N : Nat} (h : cJ σ n R S C) (hI : sI σ τ n S N) : cJ τ n R S C := by
  obtain ⟨h1, h2, h3, h4, h5, h6, h7, h8, h9, h10, h11⟩ := h
  obtain ⟨i1, i2, i3, ⟨s1, s2, s3, s4, s5⟩, i5, i6⟩ := hI
  have e : ∀ c, 13 ≤ c → c < 195 → τ c = σ c := sF_13 i1
  have hg : ∀ z, z < n → τ 8 z = σ 8 z := fun z _ => by rw [sF_g i1]
  refine ⟨cT_sF i1 h1, cRo_gr (Nat.le_refl _) (fun c c1 c2 => e c c1 (by omega)) h2, cSe_eq hg (by rw [e 13 (by decide) (by decide)]) (e _ (by decide) (by decide)) (e _ (by decide) (by decide)) h3, cCl_eq (by rw [e 13 (by decide) (by decide)]) (fun c c1 c2 => e c (by omega) (by omega)) h4, cKn_eq (by rw [e 13 (by decide) (by decide)]) h5, cKw_eq2 (e _ (by decide) (by decide)) (e _ (by decide) (by decide)) (e _ (by decide) (by decide)) (fun g _ g2 => i1.2 g (by omega)) h6, i2, i3, ?_, ⟨N, s1, s2, s3, s4, s5⟩, i5⟩
  unfold cRu
  rw [e 181 (by decide) (by decide), e 183 (by decide) (by decide), e 182 (by decide) (by decide), e 186 (by decide) (by decide)]
  rcases h9 with q | ⟨q1, q2, q3, q4⟩
  · exact Or.inl q
  · refine Or.inr ⟨q1, q2, cV_eq hg q3, ?_⟩
    rcases q4 with q4 | ⟨g, g1, g2, g3⟩
    · exact Or.inl q4
    · refine Or.inr ⟨g, g1, g2, fun hgn => ?_⟩
      obtain ⟨u, u1, u2, u3⟩ := g3 hgn
      exact ⟨u, u1, u2, cKg_eq hg (fun g _ b => ⟨(i1.2 g (by omega)).2.1, (i1.2 g (by omega)).2.2.1⟩) u3⟩
theorem sI_0 {σ ρ : kS} {n R S C : Nat} (h : cJ σ n R S C) (e : ∀ c, c ≠ 195 → c ≠ 196 → c ≠ 201 → c ≠ 202 → c < 224 ∨ 229 ≤ c → ρ c = σ c) (e1 : ρ 196 5 = 0) (e2 : ρ 195 9 = -1) (hO : cO ρ n) : sI σ ρ n S 0 := by
  have e' : ∀ c, c < 195 ∨ (202 < c ∧ c < 224) ∨ 229 ≤ c → ρ c = σ c := fun c hc => e c (by omega) (by omega) (by omega) (by omega) (by omega)
  have hgt : ∀ g, 200 ≤ g → ρ 2 g = σ 2 g ∧ ρ 3 g = σ 3 g ∧ ρ 4 g = σ 4 g ∧ ρ 6 g = σ 6 g := fun g _ => by
    rw [e' 2 (by decide), e' 3 (by decide), e' 4 (by decide), e' 6 (by decide)]
    exact ⟨rfl, rfl, rfl, rfl⟩
  obtain ⟨h1, h2, h3, h4, h5, h6, h7, h8, h9, h10, h11⟩ := h
  exact ⟨sF_of (fun c hc => e' c (by omega)), cKw_eq (by decide) (e' _ (by decide)) (e' _ (by decide)) (e' _ (by decide)) hgt h7, cKw_eq (by decide) (e' _ (by decide)) (e' _ (by decide)) (e' _ (by decide)) hgt h8, ⟨by decide, e1, fun i hi => absurd hi (Nat.not_lt_zero i), fun i _ hi => absurd hi (Nat.not_lt_zero i), Or.inl e2⟩, cQ_eq (e' _ (by decide)) (e' _ (by decide)) h11, hO⟩
set_option maxRecDepth 100000 in
set_option maxHeartbeats 4000000 in
theorem mc_start (L : Nat) (xs : Nat → Int32) (d : Nat) (σ : kS) (n R S C : Nat) (h : cJ σ n R S C) : kXM kT L xs (d + 55) 80 [.ref 195] σ (fun q ω => q = none ∧ ∃ N', sI σ ω n S N') := by
  have hT := h.1
  have hS4 := h.2.2.1.1
  obtain ⟨kn, kn1, kn2⟩ := h.2.2.2.2.1
  unfold kXM
  iterate 1 (refine kX_one rfl ?_)
  refine kX_cal (mc_forget L xs (d + 51) σ) rfl (Or.inr rfl) rfl rfl rfl (fun r1 τ q1 => ?_)
  obtain ⟨rfl, f1, f2, -, -, f3⟩ := q1
  have hT1 : cT τ n := cT_eq (by rw [f3 1 (by decide) (by decide) (by decide)]) (f3 _ (by decide) (by decide) (by decide)) (fun u _ => ⟨by rw [f3 2 (by decide) (by decide) (by decide)], by rw [f3 3 (by decide) (by decide) (by decide)], by rw [f3 4 (by decide) (by decide) (by decide)], by rw [f3 8 (by decide) (by decide) (by decide)], by rw [f3 12 (by decide) (by decide) (by decide)], by rw [f3 6 (by decide) (by decide) (by decide)]⟩) hT
  iterate 2 (refine kX_one rfl ?_)
  refine kX_cal (mc_listOptions L xs (d + 52) τ n hT1) rfl (Or.inr rfl) rfl rfl rfl (fun r1 ω q1 => ?_)
  obtain ⟨rfl, o1, o2⟩ := q1
  have e0 : ∀ c, c ≠ 195 → c ≠ 196 → c ≠ 201 → c < 224 ∨ 229 ≤ c → ω c = σ c := fun c c1 c2 c3 c4 => (o1 c c4).trans (f3 c c1 c2 c3)
  have e1 : ω 196 5 = 0 := by rw [o1 196 (by decide)]; exact f1
  have e2 : ω 195 9 = -1 := by rw [o1 195 (by decide)]; exact f2
  iterate 7 (refine kX_one rfl ?_)
  generalize hρ : va_up ω 195 (upd (ω 195) 6 (ω 13 6 * (Int8.ofInt 7).toInt32)) = ρ
  have g0 : ∀ c, c ≠ 195 → ρ c = ω c := fun c hc => by rw [← hρ]; exact up_ne hc
  have g1 : ρ 195 9 = -1 := by rw [← hρ]; exact e2
  have hCl : cCl ρ C := cCl_eq (by rw [g0 13 (by decide), e0 13 (by decide) (by decide) (by decide) (by decide)]) (fun c c1 c2 => (g0 c (by omega)).trans (e0 c (by omega) (by omega) (by omega) (by omega))) h.2.2.2.1
  iterate 3 (refine kX_one rfl ?_)
  refine kX_cal (mc_hasSecrets L xs (d + 53) ρ C hCl) rfl (Or.inr rfl) rfl rfl rfl (fun r1 σ1 q1 => ?_)
  obtain ⟨hq, rfl⟩ := q1
  have k36 : ∀ x, kX kT L xs (d + 55) 80 36 [(0, .ref 195)] [] (va_up ρ 195 (upd (ρ 195) 7 x)) (fun q ω => q = none ∧ ∃ N', sI σ ω n S N') := by
    intro x
    iterate 8 (refine kX_one rfl ?_)
    refine kX_acpyN (n0 := 28) (n1 := 28) (f0 := fun _ => 0) (g0 := fun _ => 0) rfl rfl rfl rfl rfl rfl 0 0 28 rfl rfl rfl (by decide) (by decide) (by decide) (by decide) (Nat.zero_le 8) ?_
    have hI : sI σ (va_up (va_up ρ 195 (upd (ρ 195) 7 x)) 202 (va_cpy (ρ 17) (ρ 202) 0 0 28)) n S 0 := sI_0 h (fun c a1 a2 a3 a4 a5 => (up_ne a4).trans ((up_ne a1).trans ((g0 c a1).trans (e0 c a1 a2 a3 a5)))) (by
      show ρ 196 5 = 0
      rw [g0 196 (by decide)]
      exact e1) g1 (cO_eq (fun z _ => by
      show ρ 8 z = ω 8 z
      rw [g0 _ (by decide)]) (fun c c1 c2 => by rw [up_ne (by omega), up_ne (by omega)]; exact g0 c (by omega)) o2)
    have hV : cV (va_up (va_up ρ 195 (upd (ρ 195) 7 x)) 202 (va_cpy (ρ 17) (ρ 202) 0 0 28)) n S ((va_up (va_up ρ 195 (upd (ρ 195) 7 x)) 202 (va_cpy (ρ 17) (ρ 202) 0 0 28)) 202) 0 := by
      refine cV_eq (σ := σ) (fun z _ => by rw [sF_g hI.1]) (fun s k hs hk => ?_)
      rw [up_eq, va_cpy, if_pos (by omega), show 0 + (0 + 7 * s + 1 + k - 0) = 0 + 7 * s + 1 + k by omega, g0 17 (by decide), e0 17 (by decide) (by decide) (by decide) (by decide)]
      exact h.2.2.1.2.2.2 s k hs hk
    refine kX_st (va_up (va_up ρ 195 (upd (ρ 195) 7 x)) 202 (va_cpy (ρ 17) (ρ 202) 0 0 28)) rfl ?_
    generalize va_up (va_up ρ 195 (upd (ρ 195) 7 x)) 202 (va_cpy (ρ 17) (ρ 202) 0 0 28) = π at *
    have hB1 := cB_sI h hI
    have hkn2 : π 13 10 = nI kn := by rw [sF_13 hI.1 13 (by decide) (by decide)]; exact kn2
    iterate 7 (refine kX_one rfl ?_)
    refine kX_cal (mc_fill L xs d π 213 1352 n R S 202 28 0 kn (fun _ => 0) (Or.inr (Or.inr ⟨rfl, rfl⟩)) (cT_sF hI.1 hT) hB1.1 hS4 hB1.2.1.2.1 hB1.2.1.2.2 kn1 hkn2 hI.2.2.1 rfl (by decide) (by decide) (by decide) hV) rfl (Or.inr rfl) rfl rfl rfl (fun r1 κ q1 => ?_)
    obtain ⟨rfl, hF, u, hW⟩ := q1
    have hIp := sI_K hI (Or.inr ⟨rfl, rfl⟩) hF (nW_w hW)
    have hVp : cV κ n S (κ 202) 0 := by
      rw [hF.1 202 (by decide) (by decide) (by decide) (by decide) (by decide) (by decide)]
      exact cV_eq (fun z _ => by rw [hF.1 8 (by decide) (by decide) (by decide) (by decide) (by decide) (by decide)]) hV
    iterate 5 (refine kX_one rfl ?_)
    refine kX_cal (mc_reach L xs d σ κ n R S C 0 213 1352 _ _ h hIp hVp (fun z => absurd z (Nat.lt_irrefl 0)) (Or.inr ⟨rfl, rfl⟩)) rfl (Or.inr rfl) rfl rfl rfl (fun r1 μ q1 => ?_)
    obtain ⟨rfl, -, N2, n2, hIk⟩ := q1
    refine kX_ret (i := .return_) (len := 1) rfl (Or.inr rfl) rfl (⟨rfl, N2, hIk⟩)
  rcases hq with rfl | rfl
  · iterate 1 (refine kX_one rfl ?_)
    exact kX_lv _ rfl rfl rfl (k36 _)
  · iterate 1 (refine kX_one rfl ?_)
    exact kX_lv _ rfl rfl rfl (k36 _)
set_option maxRecDepth 100000 in
set_option maxHeartbeats 4000000 in
theorem mc_goesOn (L : Nat) (xs : Nat → Int32) (d : Nat) (τ : kS) (N i : Nat) (hN : N ≤ 600) (hi : i ≤ 600) (hc : τ 196 5 = nI N) : kXM kT L xs (d + 1) 81 [.ref 195, .int (nI i)] τ (fun q ω => (q = some (.int 0) ∨ (q = some (.int 1) ∧ i < N)) ∧ τ = ω) := by
  unfold kXM
  repeat refine kX_one rfl ?_
  refine kX_if (fun q => ?_) (fun q => ?_)
  · repeat refine kX_one rfl ?_
    refine kX_ret (i := .ireturn) (len := 1) rfl (Or.inr rfl) rfl (⟨Or.inl rfl, rfl⟩)
  · iterate 4 (refine kX_one rfl ?_)
    refine kX_top (hc) ?_
    repeat refine kX_one rfl ?_
    refine kX_if (fun q2 => ?_) (fun q2 => ?_)
    · repeat refine kX_one rfl ?_
      refine kX_ret (i := .ireturn) (len := 1) rfl (Or.inr rfl) rfl (⟨Or.inl rfl, rfl⟩)
    · have q2 := qgeF q2 i N
      repeat refine kX_one rfl ?_
      refine kX_ret (i := .ireturn) (len := 1) rfl (Or.inr rfl) rfl (⟨Or.inr ⟨rfl, q2⟩, rfl⟩)
set_option maxRecDepth 100000 in
set_option maxHeartbeats 4000000 in
theorem mk_search (L : Nat) (xs : Nat → Int32) (d : Nat) (σ : kS) (n R S C : Nat) (h : cJ σ n R S C) : kXM kT L xs (d + 57) 132 [.ref 0] σ (fun r σ' => (∃ x, r = some (.int x)) ∧ cAfter σ σ' R) := by
  have hA : ∀ {ω N}, sI σ ω n S N → cAfter σ ω R := fun hI => ⟨fun c hc => hI.1.1 c (Or.inr hc) (by omega) (by omega) (by omega) (by omega) (by omega), n, S, C, cJ_sI h hI⟩
  have loop : ∀ q : Nat × kS × Nat, (q.1 ≤ 600 ∧ sI σ q.2.1 n S q.2.2) → kX kT L xs (d + 57) 132 9 [(1, .int (nI q.1)), (0, .ref 0)] [] q.2.1 (fun r σ' => (∃ x, r = some (.int x)) ∧ cAfter σ σ' R) := by
    refine kX_while (fun q : Nat × kS × Nat => [(1, .int (nI q.1)), (0, .ref 0)]) (fun q => q.2.1) _ (fun q => 600 - q.1) ?_
    rintro ⟨i, ω, N⟩ ⟨i1, i2⟩ ih
    dsimp only at i1 i2 ih ⊢
    repeat refine kX_one rfl ?_
    refine kX_if (fun q => ?_) (fun q => ?_)
    · repeat refine kX_one rfl ?_
      refine kX_ret (i := .ireturn) (len := 1) rfl (Or.inr rfl) rfl (⟨⟨_, rfl⟩, hA i2⟩)
    · have q := qgeF q i 600
      iterate 3 (refine kX_one rfl ?_)
      refine kX_cal (mc_goesOn L xs (d + 55) ω N i i2.2.2.2.1.1 i1 i2.2.2.2.1.2.1) rfl (Or.inr rfl) rfl rfl rfl (fun r1 σ1 q1 => ?_)
      obtain ⟨hq, rfl⟩ := q1
      rcases hq with rfl | ⟨rfl, hi⟩
      · repeat refine kX_one rfl ?_
        refine kX_ret (i := .ireturn) (len := 1) rfl (Or.inr rfl) rfl (⟨⟨_, rfl⟩, hA i2⟩)
      · iterate 4 (refine kX_one rfl ?_)
        refine kX_cal (mc_goThrough L xs d σ ω n R S C N i h i2 hi) rfl (Or.inr rfl) rfl rfl rfl (fun r1 ρ q1 => ?_)
        obtain ⟨rfl, N2, -, hI2⟩ := q1
        iterate 2 (refine kX_one rfl ?_)
        have := ih (i + 1, ρ, N2) ⟨q, hI2⟩ (by simp only; omega)
        dsimp only at this
        rw [← nI_1] at this
        exact kX_lv _ rfl rfl rfl this
  unfold kXM
  iterate 2 (refine kX_one rfl ?_)
  refine kX_cal (mc_start L xs (d + 1) σ n R S C h) rfl (Or.inr rfl) rfl rfl rfl (fun r1 τ q1 => ?_)
  obtain ⟨rfl, N, hI⟩ := q1
  iterate 2 (refine kX_one rfl ?_)
  exact kX_lv _ rfl rfl rfl (loop (0, τ, N) ⟨Nat.zero_le _, hI⟩)
