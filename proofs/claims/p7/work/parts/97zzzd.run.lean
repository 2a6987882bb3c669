/-! alike: clear, end, begin -/
set_option maxRecDepth 100000 in
set_option maxHeartbeats 4000000 in
theorem mf_forget (L : Nat) (xs : Nat → Int32) (d : Nat) (σ : kS) : kXM kT L xs (d + 3) 79 [.ref 195] σ (fun r σ' => r = none ∧ σ' 196 5 = 0 ∧ σ' 195 9 = -1 ∧ σ' 195 10 = 0 ∧ σ' 195 11 = 0 ∧ σ' 195 12 = 0 ∧ (∀ s, s < 1024 → σ' 201 s = -1) ∧ ∀ c, c ≠ 195 → c ≠ 196 → c ≠ 201 → σ' c = σ c) := by
  unfold kXM
  iterate 2 (refine kX_one rfl ?_)
  have hem : kXM kT L xs (d + 2) 87 [.ref 196] σ (fun r σ' => r = none ∧ σ' 196 5 = 0 ∧ σ' 195 = σ 195 ∧ (∀ s, s < 1024 → σ' 201 s = -1) ∧ ∀ c, c ≠ 196 → c ≠ 201 → σ' c = σ c) := by
    unfold kXM
    iterate 6 (refine kX_one rfl ?_)
    refine kX_cal (kX_fill (T := kT) L xs d (-1) _ (a := 201) (n := 1024) (g0 := fun _ => 0) rfl (by decide)) rfl (Or.inr rfl) rfl rfl rfl (fun r1 σ1 q1 => ?_)
    obtain ⟨rfl, rfl⟩ := q1
    refine kX_ret (i := .return_) (len := 1) rfl (Or.inr rfl) rfl ⟨rfl, rfl, rfl, fun s hs => if_pos hs, fun c c1 c2 => ?_⟩
    unfold va_up
    rw [if_neg c2, if_neg c1]
  refine kX_cal hem rfl (Or.inr rfl) rfl rfl rfl (fun r1 ρ q1 => ?_)
  obtain ⟨rfl, g1, g2, g4, g3⟩ := q1
  repeat refine kX_one rfl ?_
  refine kX_ret (i := .return_) (len := 1) rfl (Or.inr rfl) rfl ⟨rfl, g1, rfl, rfl, rfl, rfl, g4, fun c c1 c2 c3 => ?_⟩
  unfold va_up
  rw [if_neg c1, if_neg c1, if_neg c1, if_neg c1]
  exact g3 c c2 c3
set_option maxRecDepth 100000 in
set_option maxHeartbeats 4000000 in
theorem kf_clear (L : Nat) (xs : Nat → Int32) (d : Nat) (σ : kS) (n R S C : Nat) (h : cJ σ n R S C) : kXM kT L xs (d + 4) 138 [.ref 0] σ (fun r σ' => r = some (.int (nI n)) ∧ cHi σ σ' ∧ cJ σ' 0 0 0 0 ∧ (∀ s, s < 256 → σ' 7 s = -1) ∧ σ' 13 10 = 0 ∧ σ' 181 8 = 0 ∧ σ' 196 5 = 0 ∧ σ' 195 9 = -1 ∧ σ' 195 10 = 0 ∧ σ' 195 11 = 0 ∧ ∀ c, 186 ≤ c → c ≠ 195 → c ≠ 196 → c ≠ 201 → σ' c = σ c) := by
  obtain ⟨h1, h2, h3, h4, h5, h6, h7, h8, h9, h10, h11⟩ := h
  unfold kXM
  iterate 10 (refine kX_one rfl ?_)
  refine kX_cal (mf_forget L xs d _) rfl (Or.inr rfl) rfl rfl rfl (fun r1 ρ q1 => ?_)
  obtain ⟨rfl, g1, g2, g5, g6, -, -, g3⟩ := q1
  have hoth : ∀ c, c ≠ 181 → c ≠ 195 → c ≠ 196 → c ≠ 201 → ρ c = σ c := fun c c0 c1 c2 c3 => by
    rw [g3 c c1 c2 c3]
    unfold va_up
    rw [if_neg c0]
  have hon : ρ 181 8 = 0 := by
    rw [g3 181 (by decide) (by decide) (by decide)]
    rfl
  iterate 2 (refine kX_one rfl ?_)
  have hbe : kXM kT L xs (d + 3) 2 [.ref 13] ρ (fun r σ' => r = none ∧ σ' = va_up ρ 13 (upd (upd (upd (upd (ρ 13) 2 0) 6 0) 8 0) 10 0)) := by
    unfold kXM
    repeat refine kX_one rfl ?_
    refine kX_ret (i := .return_) (len := 1) rfl (Or.inr rfl) rfl ⟨rfl, ?_⟩
    funext c; unfold  va_up; repeat' split
    all_goals first | rfl | omega | (subst_vars; rfl) | (funext j; unfold upd; repeat' split; all_goals first | rfl | omega | (subst_vars; rfl))
  refine kX_cal hbe rfl (Or.inr rfl) rfl rfl rfl (fun r1 ρ2 q1 => ?_)
  obtain ⟨rfl, rfl⟩ := q1
  iterate 2 (refine kX_one rfl ?_)
  have hte : kXM kT L xs (d + 3) 93 [.ref 1] (va_up ρ 13 (upd (upd (upd (upd (ρ 13) 2 0) 6 0) 8 0) 10 0)) (fun r σ' => r = none ∧ (∀ s, s < 256 → σ' 7 s = -1) ∧ σ' 1 11 = 0 ∧ σ' 13 2 = 0 ∧ σ' 13 6 = 0 ∧ σ' 13 8 = 0 ∧ σ' 13 10 = 0 ∧ ∀ c, c ≠ 13 → c ≠ 1 → c ≠ 7 → σ' c = ρ c) := by
    unfold kXM
    iterate 6 (refine kX_one rfl ?_)
    refine kX_cal (kX_fill (T := kT) L xs (d + 1) (-1) _ (a := 7) (n := 256) (g0 := fun _ => 0) rfl (by decide)) rfl (Or.inr rfl) rfl rfl rfl (fun r1 σ1 q1 => ?_)
    obtain ⟨rfl, rfl⟩ := q1
    refine kX_ret (i := .return_) (len := 1) rfl (Or.inr rfl) rfl ⟨rfl, fun s hs => ?_, rfl, rfl, rfl, rfl, rfl, fun c c1 c2 c3 => ?_⟩
    · exact if_pos hs
    · unfold va_up
      rw [if_neg c3, if_neg c2, if_neg c1]
  refine kX_cal hte rfl (Or.inr rfl) rfl rfl rfl (fun r1 τ q1 => ?_)
  obtain ⟨rfl, t1, t2, t3, t4, t5, t6, t7⟩ := q1
  have hall : ∀ c, c ≠ 13 → c ≠ 1 → c ≠ 7 → c ≠ 181 → c ≠ 195 → c ≠ 196 → c ≠ 201 → τ c = σ c := fun c c1 c2 c3 c4 c5 c6 c7 => (t7 c c1 c2 c3).trans (hoth c c4 c5 c6 c7)
  have hk : ∀ c, 186 ≤ c → c ≠ 195 → c ≠ 196 → c ≠ 201 → τ c = σ c := fun c c0 c1 c2 c3 => hall c (by omega) (by omega) (by omega) (by omega) c1 c2 c3
  have hgt : ∀ g, 200 ≤ g → τ 2 g = σ 2 g ∧ τ 3 g = σ 3 g ∧ τ 4 g = σ 4 g ∧ τ 6 g = σ 6 g := fun g _ => by
    rw [hall 2 (by decide) (by decide) (by decide) (by decide) (by decide) (by decide) (by decide), hall 3 (by decide) (by decide) (by decide) (by decide) (by decide) (by decide) (by decide), hall 4 (by decide) (by decide) (by decide) (by decide) (by decide) (by decide) (by decide), hall 6 (by decide) (by decide) (by decide) (by decide) (by decide) (by decide) (by decide)]
    exact ⟨rfl, rfl, rfl, rfl⟩
  repeat refine kX_one rfl ?_
  refine kX_ret (i := .ireturn) (len := 1) rfl (Or.inr rfl) rfl ⟨rV h1.2.1, fun c hc => hk c (by omega) (by omega) (by omega) (by omega), ⟨⟨by omega, t2, fun s hs => Or.inl (t1 s hs), fun t ht => absurd ht (Nat.not_lt_zero t)⟩, ⟨by omega, t3, fun r hr => absurd hr (Nat.not_lt_zero r)⟩, ⟨by omega, t4, fun s hs => absurd hs (Nat.not_lt_zero s), fun s k hs => absurd hs (Nat.not_lt_zero s)⟩, ⟨by omega, t5, fun c hc => absurd hc (Nat.not_lt_zero c)⟩, ⟨0, by omega, t6⟩, cKw_eq (by decide) (hk _ (by decide) (by decide) (by decide) (by decide)) (hk _ (by decide) (by decide) (by decide) (by decide)) (hk _ (by decide) (by decide) (by decide) (by decide)) hgt h6, cKw_eq (by decide) (hk _ (by decide) (by decide) (by decide) (by decide)) (hk _ (by decide) (by decide) (by decide) (by decide)) (hk _ (by decide) (by decide) (by decide) (by decide)) hgt h7, cKw_eq (by decide) (hk _ (by decide) (by decide) (by decide) (by decide)) (hk _ (by decide) (by decide) (by decide) (by decide)) (hk _ (by decide) (by decide) (by decide) (by decide)) hgt h8, Or.inl ?_, cSr_0 ?_ ?_, cQ_eq (hk _ (by decide) (by decide) (by decide) (by decide)) (hk _ (by decide) (by decide) (by decide) (by decide)) h11⟩, t1, t6, ?_, ?_, ?_, ?_, ?_, hk⟩
  · rw [t7 181 (by decide) (by decide) (by decide)]
    exact hon
  · rw [t7 196 (by decide) (by decide) (by decide)]
    exact g1
  · rw [t7 195 (by decide) (by decide) (by decide)]
    exact g2
  · rw [t7 181 (by decide) (by decide) (by decide)]
    exact hon
  · rw [t7 196 (by decide) (by decide) (by decide)]
    exact g1
  · rw [t7 195 (by decide) (by decide) (by decide)]
    exact g2
  · rw [t7 195 (by decide) (by decide) (by decide)]
    exact g5
  · rw [t7 195 (by decide) (by decide) (by decide)]
    exact g6
set_option maxRecDepth 100000 in
set_option maxHeartbeats 4000000 in
theorem mf_clear (L : Nat) (xs : Nat → Int32) (d : Nat) (σ : kS) (n b R S C : Nat) (kl : List Nat) (h : mI σ n b R S C kl) : kXM kT L xs (d + 2) 226 [.ref 232] σ (fun r σ' => r = some (.int (nI n)) ∧ mLow σ σ' ∧ mI σ' 0 200 0 0 0 [] ∧ σ' 232 52 = 0 ∧ σ' 232 69 = 0 ∧ σ' 232 70 = 0 ∧ σ' 232 71 = 0 ∧ σ' 232 72 = -6) := by
  have h1 := h.1
  unfold kXM
  repeat refine kX_one rfl ?_
  refine kX_cal (mr_release L xs d σ n b 200 h1 (by omega) h1.2.1) rfl (Or.inr rfl) rfl rfl rfl (fun r1 σ1 q1 => ?_)
  obtain ⟨rfl, hd, q1, -⟩ := q1
  have hl1 : mLow σ σ1 := by
    rw [q1]
    exact mLow_trans (mLow_up σ _ (by decide)) (mLow_up _ _ (by decide))
  have hb1 : σ1 232 10 = nI 200 := by
    rw [q1]
    rfl
  clear q1
  repeat refine kX_one rfl ?_
  refine kX_cal (mr_emptyTable L xs d σ1) rfl (Or.inr rfl) rfl rfl rfl (fun r2 σ2 q2 => ?_)
  obtain ⟨rfl, hd2, rfl, hh⟩ := q2
  repeat refine kX_one rfl ?_
  refine kX_cal (mr_forget L xs d _) rfl (Or.inr rfl) rfl rfl rfl (fun r3 σ3 q3 => ?_)
  obtain ⟨rfl, rfl⟩ := q3
  repeat refine kX_one rfl ?_
  refine kX_ret (i := .ireturn) (len := 1) rfl (Or.inr rfl) rfl ⟨rV h1.2.2.2.1, ?_, mI_empty rfl hb1 rfl rfl rfl rfl rfl rfl hh, rfl, rfl, rfl, rfl, rfl⟩
  refine mLow_trans hl1 ?_
  intro c hc
  simp only [va_up]
  repeat rw [if_neg (by omega)]
theorem bo_clear (L : Nat) (xs : Nat → Int32) (d d' m : Nat) (σ : kS) (h : bJ m σ) : kXM kT L xs (d + 4) 138 [.ref 0] σ (fun r τ => ∃ z, r = some (.int z) ∧ kXM kT L xs (d' + 2) 226 [.ref 232] τ (fun r' ω => r' = some (.int z) ∧ bJ m ω)) := by
  obtain ⟨n, b, R, S, C, kl, h⟩ := h
  refine kXM_mono (kf_clear L xs d σ n R S C h.2.1) (fun r τ q => ?_)
  obtain ⟨rfl, q1, q2, q3, q4, q5, q6, q7, q8, q9, q10⟩ := q
  refine ⟨_, rfl, kXM_mono (mf_clear L xs d' τ n b R S C kl (aJ_hi h q1)) (fun r ω p => ?_)⟩
  obtain ⟨rfl, p1, p2, p3, p4, p5, p6, p7⟩ := p
  refine ⟨rfl, 0, 200, 0, 0, 0, [], p2, cJ_low p1 q2, ⟨fun t ht => absurd ht (Nat.not_lt_zero t), fun s hs => Or.inl ⟨?_, fun t _ z => absurd z.1.1 (Nat.not_lt_zero t)⟩, fun t ht => absurd ht.1 (Nat.not_lt_zero t)⟩, fun r hr => absurd hr (Nat.not_lt_zero r), fun r hr => absurd hr (Nat.not_lt_zero r), fun r hr => absurd hr (Nat.not_lt_zero r), ⟨?_, lst_nil _⟩, aU_none ?_ p3, aF_none ?_ ?_ ?_ ?_ p4 p5 p6 p7, ?_⟩
  · rw [p1 _ (by decide)]
    exact q3 s hs
  · rw [p1 _ (by decide)]
    exact q4
  · rw [p1 _ (by decide)]
    exact q5
  · rw [p1 _ (by decide)]
    exact q6
  · rw [p1 _ (by decide)]
    exact q8
  · rw [p1 _ (by decide)]
    exact q9
  · rw [p1 _ (by decide)]
    exact q7
  · obtain ⟨m1, m2, m3, a1, a2, a3, a4, a5, a6⟩ := h.2.2.2.2.2.2.2.2.2
    exact ⟨m1, m2, m3, a1, a2, a3, kMs_eq (fun c c1 c2 => (p1 c (by omega)).trans (q10 c (by omega) (by omega) (by omega) (by omega))) a4, kMs_eq (fun c c1 c2 => (p1 c (by omega)).trans (q10 c (by omega) (by omega) (by omega) (by omega))) a5, kMs_eq (fun c c1 c2 => (p1 c (by omega)).trans (q10 c (by omega) (by omega) (by omega) (by omega))) a6⟩
/-- cells that have not changed, by lists -/
theorem eqC_of {σ ω : kS} {P : Nat → Prop} [DecidablePred P] (h : ∀ c, P c → ω c = σ c) (l : List Nat) (hl : l.all (fun c => decide (P c)) = true) : eqC σ ω l := fun c hc => h c (of_decide_eq_true (List.all_eq_true.mp hl c hc))
/-- both RUNS have changed, nothing else -/
theorem bJ_run {σ ω : kS} {n b b' R S C m : Nat} {kl : List Nat} (h : aJ σ n b R S C kl m) (hI : mI ω n b' R S C kl) (hJ : cJ ω n R S C) (e : ∀ c, c < 232 → c ≠ 181 → c ≠ 182 → c ≠ 183 → ω c = σ c) (er : ∀ c, 232 < c → c ≠ 264 → c ≠ 265 → c ≠ 274 → c ≠ 275 → ω c = σ c) (eo : ∀ j, j ≠ 52 → j ≠ 55 → j ≠ 47 → ω 232 j = σ 232 j) (hU : aU ω n S kl) : bJ m ω := by
  obtain ⟨i, -, t, r, s, c, k, -, f, mm⟩ := h
  have hr : ∀ l : List Nat, l.all (fun c => decide (232 < c ∧ c ≠ 264 ∧ c ≠ 265 ∧ c ≠ 274 ∧ c ≠ 275)) = true → eqC σ ω l := eqC_of (fun c q => er c q.1 q.2.1 q.2.2.1 q.2.2.2.1 q.2.2.2.2)
  have hl : ∀ c, c < 181 → ω c = σ c := fun c hc => e c (by omega) (by omega) (by omega) (by omega)
  have hh : ∀ c, 186 ≤ c → c < 232 → ω c = σ c := fun c c1 c2 => e c (by omega) (by omega) (by omega) (by omega)
  exact ⟨n, b', R, S, C, kl, hI, hJ, aT_c (fun c c1 c2 => hl c (by omega)) (hr _ (by decide)) t, aR_c i.1 i.2.1 (fun c c1 c2 => hl c (by omega)) (hr _ (by decide)) r, aS_c i.1.1 i.2.1 i.2.2.1 (hl _ (by decide)) (hl _ (by decide)) (hl _ (by decide)) (hr _ (by decide)) s, aC_c i.2.2.2.2.1 (fun c c1 c2 => hl c (by omega)) (hr _ (by decide)) c, aK_eq (by rw [hl 13 (by decide)]) (hl _ (by decide)) k, hU, aF_c i.1 i.2.1 i.2.2.1 (fun c c1 c2 => hl c (by omega)) (hr _ (by decide)) (hh _ (by decide) (by decide)) (hh _ (by decide) (by decide)) (hh _ (by decide) (by decide)) (hh _ (by decide) (by decide)) ⟨eo _ (by decide) (by decide) (by decide), eo _ (by decide) (by decide) (by decide), eo _ (by decide) (by decide) (by decide), eo _ (by decide) (by decide) (by decide)⟩ (hr _ (by decide)) f, aM_eq (Nat.le_refl _) (fun c c1 c2 => hh c c1 (by omega)) mm⟩
set_option maxRecDepth 100000 in
set_option maxHeartbeats 4000000 in
theorem bo_end (L : Nat) (xs : Nat → Int32) (d d' m : Nat) (σ : kS) (h : bJ m σ) : kXM kT L xs (d + 1) 123 [.ref 0] σ (fun r τ => ∃ z, r = some (.int z) ∧ kXM kT L xs (d' + 1) 192 [.ref 232] τ (fun r' ω => r' = some (.int z) ∧ bJ m ω)) := by
  have hb := h
  obtain ⟨n, b, R, S, C, kl, h⟩ := h
  have hU := h.2.2.2.2.2.2.2.1
  have e : ∀ c, c < 181 ∨ 186 ≤ c → va_up σ 181 (upd (σ 181) 8 (Int32.ofInt 0)) c = σ c := fun c hc => by
    unfold va_up
    rw [if_neg (by omega)]
  unfold kXM
  repeat refine kX_one rfl ?_
  refine kX_if (fun q => ?_) (fun q => ?_)
  · have q : σ 232 52 ≠ 0 := hU.1.mp (qne q)
    repeat refine kX_one rfl ?_
    refine kX_ret (i := .ireturn) (len := 1) rfl (Or.inr rfl) rfl (⟨_, rfl, ?_⟩)
    rcases h.1.2.2.2.2.2.1 with h6 | ⟨h6, ds, g⟩
    · exact absurd h6 q
    · iterate 2 (refine kX_one rfl ?_)
      refine kX_top (y := 1) h6 ?_
      repeat refine kX_one rfl ?_
      refine kX_ret (i := .ireturn) (len := 1) rfl (Or.inr rfl) rfl ⟨?_, ?_⟩
      · exact rV ((hU.2 q).1.symm)
      · refine bJ_run h (b' := b) ⟨h.1.1, h.1.2.1, h.1.2.2.1, h.1.2.2.2.1, h.1.2.2.2.2.1, Or.inl rfl, h.1.2.2.2.2.2.2⟩ (cJ_low (σ := va_up σ 181 (upd (σ 181) 8 (Int32.ofInt 0))) (fun c hc => up_ne (by omega)) (cJ_run h.2.1 e (Or.inl rfl))) (fun c c1 c2 _ _ => ?_) (fun c c1 _ _ _ _ => ?_) (fun j j1 _ _ => ?_) (aU_none rfl rfl)
        · rw [up_ne (by omega), up_ne c2]
        · rw [up_ne (by omega), up_ne (by omega)]
        · exact pk_un j1
  · have q : ¬ σ 232 52 ≠ 0 := fun z => hU.1.mpr z (qneF q)
    repeat refine kX_one rfl ?_
    refine kX_ret (i := .ireturn) (len := 1) rfl (Or.inr rfl) rfl (⟨_, rfl, ?_⟩)
    have h6 : σ 232 52 = 0 := Classical.byContradiction q
    iterate 2 (refine kX_one rfl ?_)
    refine kX_top (h6) ?_
    repeat refine kX_one rfl ?_
    refine kX_ret (i := .ireturn) (len := 1) rfl (Or.inr rfl) rfl (⟨rfl, hb⟩)
set_option maxRecDepth 100000 in
set_option maxHeartbeats 4000000 in
theorem mf_runStart (L : Nat) (xs : Nat → Int32) (d : Nat) (σ : kS) (n R S C : Nat) (h : cJ σ n R S C) : kXM kT L xs (d + 1) 66 [.ref 181] σ (fun r σ' => r = none ∧ σ' = va_up (va_up σ 181 (upd (upd (upd (σ 181) 8 1) 7 0) 9 (-1))) 182 (va_cpy (σ 17) (σ 182) 0 0 28) ∧ cJ σ' n R S C) := by
  unfold kXM
  repeat refine kX_one rfl ?_
  have e : ∀ c, c < 181 ∨ 186 ≤ c → va_up (va_up σ 181 (upd (upd (upd (σ 181) 8 (Int32.ofInt 1)) 7 (Int32.ofInt 0)) 9 (Int32.ofInt (-1)))) 182 (va_cpy (σ 17) (σ 182) 0 0 28) c = σ c := fun c hc => by
    unfold va_up
    rw [if_neg (by omega), if_neg (by omega)]
  refine kX_st (va_up (va_up σ 181 (upd (upd (upd (σ 181) 8 (Int32.ofInt 1)) 7 (Int32.ofInt 0)) 9 (Int32.ofInt (-1)))) 182 (va_cpy (σ 17) (σ 182) 0 0 28)) ?_ ?_
  · funext c; unfold  va_up; repeat' split
    all_goals first | rfl | omega | (subst_vars; rfl) | (funext j; unfold upd; repeat' split; all_goals first | rfl | omega | (subst_vars; rfl))
  refine kX_ret (i := .return_) (len := 1) rfl (Or.inr rfl) rfl ⟨rfl, rfl, cJ_run h e (Or.inr ⟨rfl, ⟨0, by omega, rfl, fun i hi => absurd hi (Nat.not_lt_zero i)⟩, ?_, Or.inl rfl⟩)⟩
  intro s k hs hk
  have hS4 := h.2.2.1.1
  have := h.2.2.1.2.2.2 s k hs hk
  show va_cpy (σ 17) (σ 182) 0 0 28 (0 + 7 * s + 1 + k) = -1 ∨ ∃ z, z < n ∧ va_cpy (σ 17) (σ 182) 0 0 28 (0 + 7 * s + 1 + k) = nI z ∧ σ 8 z = 1
  have e2 : va_cpy (σ 17) (σ 182) 0 0 28 (0 + 7 * s + 1 + k) = σ 17 (0 + 7 * s + 1 + k) := by
    unfold va_cpy
    rw [if_pos (by omega)]
    congr 1
    omega
  rw [e2]
  exact this
theorem cpy_at {A B : Nat → Int32} {i : Nat} (h : i < 28) : va_cpy A B 0 0 28 i = A i := by
  unfold va_cpy
  rw [if_pos (by omega)]
  congr 1
  omega
set_option maxRecDepth 100000 in
set_option maxHeartbeats 4000000 in
theorem bo_begin (L : Nat) (xs : Nat → Int32) (d d' m : Nat) (σ : kS) (h : bJ m σ) : kXM kT L xs (d + 2) 122 [.ref 0] σ (fun r τ => ∃ z, r = some (.int z) ∧ kXM kT L xs (d' + 2) 191 [.ref 232] τ (fun r' ω => r' = some (.int z) ∧ bJ m ω)) := by
  obtain ⟨n, b, R, S, C, kl, h⟩ := h
  have hS4 := h.1.2.2.1.1
  have hst : kXM kT L xs (d + 1) 66 [.ref 181] σ (fun r σ' => r = none ∧ σ' = va_up (va_up σ 181 (upd (upd (upd (σ 181) 8 1) 7 0) 9 (-1))) 182 (va_cpy (σ 17) (σ 182) 0 0 28) ∧ cJ σ' n R S C) := by
    refine kXM_mono (mf_runStart L xs d σ n R S C h.2.1) (fun r σ' q => q)
  unfold kXM
  iterate 2 (refine kX_one rfl ?_)
  refine kX_cal hst rfl (Or.inr rfl) rfl rfl rfl (fun r1 σ1 q1 => ?_)
  obtain ⟨rfl, rfl, hJ⟩ := q1
  repeat refine kX_one rfl ?_
  have hi : ∀ c, 232 ≤ c → va_up (va_up σ 181 (upd (upd (upd (σ 181) 8 1) 7 0) 9 (-1))) 182 (va_cpy (σ 17) (σ 182) 0 0 28) c = σ c := fun c hc => by rw [up_ne (by omega), up_ne (by omega)]
  refine kX_ret (i := .ireturn) (len := 1) rfl (Or.inr rfl) rfl (⟨_, rfl, ?_⟩)
  refine kXM_mono (mr_begin L xs d' _ n b R S C kl (aJ_hi h hi)) (fun r ω p => ?_)
  obtain ⟨rfl, p1, p2, D, V, rfl, hD, hV⟩ := p
  refine ⟨rV (h.2.1.2.2.1.2.1).symm, bJ_run h (b' := b) p2 (cJ_low p1 hJ) (fun c c1 c2 c3 _ => (p1 c c1).trans (by rw [up_ne c3, up_ne c2])) (fun c c1 c2 c3 _ _ => by rw [up_ne (by omega), up_ne c3, up_ne c2, up_ne (by omega), up_ne (by omega)]) (fun j j1 j2 j3 => ?_) ⟨⟨fun _ => (show (1 : Int32) ≠ 0 by decide), fun _ => (show (1 : Int32) ≠ 0 by decide)⟩, fun _ => ⟨rfl, fun i hi => ?_, fun s hs => ⟨?_, fun k hk => ?_⟩, fun s hs k hk _ => ?_, fun hg => ?_⟩⟩⟩
  · show upd (upd (upd (σ 232) 52 1) 55 0) 47 0 j = _
    rw [pk_un j3, pk_un j2, pk_un j1]
  · exact absurd hi (Nat.not_lt_zero i)
  · show va_cpy (σ 17) (σ 182) 0 0 28 (7 * s) = D s
    rw [hD s hs, cpy_at (by omega)]
    exact (h.2.2.2.2.1 s hs).2.1
  · show nnI (va_cpy (σ 17) (σ 182) 0 0 28 (7 * s + 1 + k)) = V (6 * s + k)
    rw [hV s k hs hk, cpy_at (by omega)]
    exact (h.2.2.2.2.1 s hs).2.2.1 k hk
  · show va_cpy (σ 17) (σ 182) 0 0 28 (7 * s + 1 + k) = σ 17 (7 * s + 1 + k)
    rw [cpy_at (by omega)]
  · exact absurd hg.symm (nI_m1 (by have := h.1.1.1; omega))
