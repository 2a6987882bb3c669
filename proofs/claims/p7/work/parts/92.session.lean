/-! the reference: session -/
set_option maxRecDepth 100000 in
set_option maxHeartbeats 4000000 in
theorem mp_session (L : Nat) (xs : Nat → Int32) (d : Nat) (σ : kS) (n b R S C : Nat) (kl : List Nat) (x a1 a2 a3 : Int32) (h : mI σ n b R S C kl) : kXM kT L xs (d + 4) 170 [.ref 232, .int x, .int a1, .int a2, .int a3] σ (fun r σ' => (∃ x, r = some (.int x)) ∧ mAfter σ σ' R) := by
  have h0 := h
  obtain ⟨h1, h2, h3, h4, h5, h6, h7⟩ := h
  have hn := h1.1
  have hR4 := h2.1
  have hS4 := h3.1
  unfold kXM
  repeat refine kX_one rfl ?_
  refine kX_cal (mr_isRole L xs (d + 2) σ R x h2.2.1 (by omega)) rfl (Or.inr rfl) rfl rfl rfl (fun r1 σ1 q1 => ?_)
  obtain ⟨rfl, rfl⟩ := q1
  repeat refine kX_one rfl ?_
  refine kX_if (fun q => ?_) (fun q => ?_)
  · obtain ⟨r, hr, rfl⟩ := isB_ne.mp (qne q)
    obtain ⟨⟨v, hv6, hv⟩, -⟩ := h2.2.2.1 r hr
    have H0 := hma_le σ r 0 v
    have H1 := hma_le σ r 1 v
    have k154 : σ 232 52 = 0 → S < 4 → n + hma σ r 1 v ≤ 200 → hma σ r 0 v ≤ 3 → (∀ i, i < hma σ r 0 v → ∃ z, z < n ∧ (if i = 0 then a1 else if i = 1 then a2 else a3) = nI z ∧ σ 233 z = 0) → kX kT L xs (d + 4) 170 154 [(5, .int (nI (hma σ r 0 v))), (0, .ref 232), (1, .int (nI r)), (2, .int a1), (3, .int a2), (4, .int a3)] [] σ (fun r σ' => (∃ x, r = some (.int x)) ∧ mAfter σ σ' R) := by
      intro g1 g2 g3 g4 g5
      iterate 4 (refine kX_one rfl ?_)
      refine kX_lv _ rfl rfl rfl (mr_sessionL L xs d σ n R S C r v kl a1 a2 a3 0 hR4 hr g2 hv6 hv g3 g4 g5 h2 _ (fun τ n' b' j1 j2 j3 j4 => ?_) (0, σ) ⟨Nat.zero_le _, b, ⟨h1, h2, h3, h4, h5, g1⟩, mLow_refl σ, ⟨rfl, rfl, rfl, rfl, fun _ _ => rfl⟩, fun i hi => absurd hi (Nat.not_lt_zero i)⟩)
      have hSe := j1.2.2.1.2.1
      repeat refine kX_one rfl ?_
      refine kX_iastN rfl rfl (by decide) (S) (hSe) (by omega) ?_
      repeat refine kX_one rfl ?_
      refine kX_bastN rfl rfl (by decide) (r) (by first | rfl | decide) (by omega) (Or.inr rfl) ?_
      repeat refine kX_one rfl ?_
      refine kX_st (seS τ S r) ?_ ?_
      · rw [seS, nI_succ S, ← hSe]
        rfl
      refine kX_cal (mr_forget L xs (d + 2) _) rfl (Or.inr rfl) rfl rfl rfl (fun r1 σ1 q1 => ?_)
      obtain ⟨rfl, rfl⟩ := q1
      repeat refine kX_one rfl ?_
      refine kX_ret (i := .ireturn) (len := 1) rfl (Or.inr rfl) rfl (⟨⟨_, rfl⟩, mLow_trans j2 mLow_se, n', b', S + 1, C, kl, mI_se j1 g2 hr (fun i hi => j4 i (by rw [j3.1, hv, fN_nI (by omega)] at hi; exact hi))⟩)
    have k62 : (0 < hma σ r 0 v → isN a1 n) → (1 < hma σ r 0 v → isN a2 n) → (2 < hma σ r 0 v → isN a3 n) → kX kT L xs (d + 4) 170 62 [(5, .int (nI (hma σ r 0 v))), (0, .ref 232), (1, .int (nI r)), (2, .int a1), (3, .int a2), (4, .int a3)] [] σ (fun r σ' => (∃ x, r = some (.int x)) ∧ mAfter σ σ' R) := by
      intro p1 p2 p3
      repeat refine kX_one rfl ?_
      refine kX_if (fun q => ?_) (fun q => ?_)
      · have hruns : σ 232 52 = 0 := qeq q
        repeat refine kX_one rfl ?_
        refine kX_if (fun q => ?_) (fun q => ?_)
        · repeat refine kX_one rfl ?_
          refine kX_ret (i := .ireturn) (len := 1) rfl (Or.inr rfl) rfl (⟨⟨_, rfl⟩, mAfter_same h0⟩)
        · have hS : S ≠ 4 := fun e => qeqF q (by rw [h3.2.1, e]; rfl)
          have hS3 : S < 4 := by omega
          repeat refine kX_one rfl ?_
          refine kX_cal (mr_howManyAs L xs (d + 2) σ r 1 v (by omega) (by omega) hv6 hv) rfl (Or.inr rfl) rfl rfl rfl (fun r1 σ1 q1 => ?_)
          obtain ⟨rfl, rfl⟩ := q1
          have et : σ 232 9 + nI (hma σ r 1 v) = nI (n + hma σ r 1 v) := by rw [h1.2.2.2.1]; exact nI_add _ _
          iterate 1 (refine kX_one rfl ?_)
          refine kX_top (et) ?_
          repeat refine kX_one rfl ?_
          refine kX_if (fun q => ?_) (fun q => ?_)
          · have hle := qle q (n + hma σ r 1 v) 200
            have k135 : hma σ r 0 v ≤ 3 → (0 < hma σ r 0 v → ∃ z, z < n ∧ a1 = nI z ∧ σ 233 z = 0) → (1 < hma σ r 0 v → ∃ z, z < n ∧ a2 = nI z ∧ σ 233 z = 0) → kX kT L xs (d + 4) 170 135 [(5, .int (nI (hma σ r 0 v))), (0, .ref 232), (1, .int (nI r)), (2, .int a1), (3, .int a2), (4, .int a3)] [] σ (fun r σ' => (∃ x, r = some (.int x)) ∧ mAfter σ σ' R) := by
              intro g1 g2 g3
              repeat refine kX_one rfl ?_
              refine kX_if (fun q => ?_) (fun q => ?_)
              · have q := qle q (hma σ r 0 v) 2
                refine k154 hruns hS3 hle g1 (fun i hi => ?_)
                have : i = 0 ∨ i = 1 := by omega
                rcases this with rfl | rfl
                · exact g2 hi
                · exact g3 hi
              · have q := qleF q (hma σ r 0 v) 2
                obtain ⟨z, hz, rfl⟩ := p3 q
                repeat refine kX_one rfl ?_
                refine kX_ialdN rfl rfl (by decide) (z) (by first | rfl | decide) (by omega) ?_
                repeat refine kX_one rfl ?_
                refine kX_if (fun q2 => ?_) (fun q2 => ?_)
                · refine k154 hruns hS3 hle g1 (fun i hi => ?_)
                  have : i = 0 ∨ i = 1 ∨ i = 2 := by omega
                  rcases this with rfl | rfl | rfl
                  · exact g2 hi
                  · exact g3 hi
                  · exact ⟨z, hz, rfl, qeq q2⟩
                · repeat refine kX_one rfl ?_
                  refine kX_ret (i := .ireturn) (len := 1) rfl (Or.inr rfl) rfl (⟨⟨_, rfl⟩, mAfter_same h0⟩)
            have k120 : hma σ r 0 v ≤ 3 → (0 < hma σ r 0 v → ∃ z, z < n ∧ a1 = nI z ∧ σ 233 z = 0) → kX kT L xs (d + 4) 170 120 [(5, .int (nI (hma σ r 0 v))), (0, .ref 232), (1, .int (nI r)), (2, .int a1), (3, .int a2), (4, .int a3)] [] σ (fun r σ' => (∃ x, r = some (.int x)) ∧ mAfter σ σ' R) := by
              intro g1 g2
              repeat refine kX_one rfl ?_
              refine kX_if (fun q => ?_) (fun q => ?_)
              · have q := qle q (hma σ r 0 v) 1
                exact k135 g1 g2 (fun z => by omega)
              · have q := qleF q (hma σ r 0 v) 1
                obtain ⟨z, hz, rfl⟩ := p2 q
                repeat refine kX_one rfl ?_
                refine kX_ialdN rfl rfl (by decide) (z) (by first | rfl | decide) (by omega) ?_
                repeat refine kX_one rfl ?_
                refine kX_if (fun q2 => ?_) (fun q2 => ?_)
                · repeat refine kX_one rfl ?_
                  refine kX_ret (i := .ireturn) (len := 1) rfl (Or.inr rfl) rfl (⟨⟨_, rfl⟩, mAfter_same h0⟩)
                · exact k135 g1 g2 (fun _ => ⟨z, hz, rfl, qneF q2⟩)
            repeat refine kX_one rfl ?_
            refine kX_if (fun q => ?_) (fun q => ?_)
            · repeat refine kX_one rfl ?_
              refine kX_ret (i := .ireturn) (len := 1) rfl (Or.inr rfl) rfl (⟨⟨_, rfl⟩, mAfter_same h0⟩)
            · have g1 := qgtF q (hma σ r 0 v) 3
              repeat refine kX_one rfl ?_
              refine kX_if (fun q => ?_) (fun q => ?_)
              · have q := qle q (hma σ r 0 v) 0
                exact k120 g1 (fun z => by omega)
              · have q := qleF q (hma σ r 0 v) 0
                obtain ⟨z, hz, rfl⟩ := p1 q
                repeat refine kX_one rfl ?_
                refine kX_ialdN rfl rfl (by decide) (z) (by first | rfl | decide) (by omega) ?_
                repeat refine kX_one rfl ?_
                refine kX_if (fun q2 => ?_) (fun q2 => ?_)
                · repeat refine kX_one rfl ?_
                  refine kX_ret (i := .ireturn) (len := 1) rfl (Or.inr rfl) rfl (⟨⟨_, rfl⟩, mAfter_same h0⟩)
                · exact k120 g1 (fun _ => ⟨z, hz, rfl, qneF q2⟩)
          · repeat refine kX_one rfl ?_
            refine kX_ret (i := .ireturn) (len := 1) rfl (Or.inr rfl) rfl (⟨⟨_, rfl⟩, mAfter_same h0⟩)
      · repeat refine kX_one rfl ?_
        refine kX_ret (i := .ireturn) (len := 1) rfl (Or.inr rfl) rfl (⟨⟨_, rfl⟩, mAfter_same h0⟩)
    have k45 : (0 < hma σ r 0 v → isN a1 n) → (1 < hma σ r 0 v → isN a2 n) → kX kT L xs (d + 4) 170 45 [(5, .int (nI (hma σ r 0 v))), (0, .ref 232), (1, .int (nI r)), (2, .int a1), (3, .int a2), (4, .int a3)] [] σ (fun r σ' => (∃ x, r = some (.int x)) ∧ mAfter σ σ' R) := by
      intro p1 p2
      repeat refine kX_one rfl ?_
      refine kX_if (fun q => ?_) (fun q => ?_)
      · have q := qle q (hma σ r 0 v) 2
        exact k62 p1 p2 (fun z => by omega)
      · repeat refine kX_one rfl ?_
        refine kX_cal (mr_isTerm L xs (d + 2) σ n a3 h1.2.2.2.1 (by omega)) rfl (Or.inr rfl) rfl rfl rfl (fun r1 σ1 q1 => ?_)
        obtain ⟨rfl, rfl⟩ := q1
        repeat refine kX_one rfl ?_
        refine kX_if (fun q => ?_) (fun q => ?_)
        · exact k62 p1 p2 (fun _ => isB_ne.mp (qne q))
        · repeat refine kX_one rfl ?_
          refine kX_ret (i := .ireturn) (len := 1) rfl (Or.inr rfl) rfl (⟨⟨_, rfl⟩, mAfter_same h0⟩)
    have k31 : (0 < hma σ r 0 v → isN a1 n) → kX kT L xs (d + 4) 170 31 [(5, .int (nI (hma σ r 0 v))), (0, .ref 232), (1, .int (nI r)), (2, .int a1), (3, .int a2), (4, .int a3)] [] σ (fun r σ' => (∃ x, r = some (.int x)) ∧ mAfter σ σ' R) := by
      intro p1
      repeat refine kX_one rfl ?_
      refine kX_if (fun q => ?_) (fun q => ?_)
      · have q := qle q (hma σ r 0 v) 1
        exact k45 p1 (fun z => by omega)
      · repeat refine kX_one rfl ?_
        refine kX_cal (mr_isTerm L xs (d + 2) σ n a2 h1.2.2.2.1 (by omega)) rfl (Or.inr rfl) rfl rfl rfl (fun r1 σ1 q1 => ?_)
        obtain ⟨rfl, rfl⟩ := q1
        repeat refine kX_one rfl ?_
        refine kX_if (fun q => ?_) (fun q => ?_)
        · repeat refine kX_one rfl ?_
          refine kX_ret (i := .ireturn) (len := 1) rfl (Or.inr rfl) rfl (⟨⟨_, rfl⟩, mAfter_same h0⟩)
        · exact k45 p1 (fun _ => isB_ne.mp (qeqF q))
    repeat refine kX_one rfl ?_
    refine kX_cal (mr_howManyAs L xs (d + 2) σ r 0 v (by omega) (by omega) hv6 hv) rfl (Or.inr rfl) rfl rfl rfl (fun r1 σ1 q1 => ?_)
    obtain ⟨rfl, rfl⟩ := q1
    repeat refine kX_one rfl ?_
    refine kX_if (fun q => ?_) (fun q => ?_)
    · have q := qle q (hma σ r 0 v) 0
      exact k31 (fun z => by omega)
    · repeat refine kX_one rfl ?_
      refine kX_cal (mr_isTerm L xs (d + 2) σ n a1 h1.2.2.2.1 (by omega)) rfl (Or.inr rfl) rfl rfl rfl (fun r1 σ1 q1 => ?_)
      obtain ⟨rfl, rfl⟩ := q1
      repeat refine kX_one rfl ?_
      refine kX_if (fun q => ?_) (fun q => ?_)
      · repeat refine kX_one rfl ?_
        refine kX_ret (i := .ireturn) (len := 1) rfl (Or.inr rfl) rfl (⟨⟨_, rfl⟩, mAfter_same h0⟩)
      · exact k31 (fun _ => isB_ne.mp (qeqF q))
  · repeat refine kX_one rfl ?_
    refine kX_ret (i := .ireturn) (len := 1) rfl (Or.inr rfl) rfl (⟨⟨_, rfl⟩, mAfter_same h0⟩)
