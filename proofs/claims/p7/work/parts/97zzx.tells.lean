/-! alike: told, found, attack, done, stands -/
theorem rV {x y : Int32} (h : x = y) : some (Value.int x) = some (Value.int y) := by rw [h]
noncomputable def tdV (σ : kS) : Nat → Int32
  | 0 => σ 232 9
  | 1 => σ 232 13
  | 2 => σ 232 27
  | 3 => σ 232 30
  | 4 => σ 232 26
  | _ => cit (σ 232 52 ≠ 0) (σ 232 55) (-6)
noncomputable def tdA (σ : kS) (x : Int32) : Int32 := cit (isN x 6) (tdV σ (fN x)) (-2)
theorem tdA_k {σ : kS} {k : Nat} (hk : k < 6) : tdA σ (nI k) = tdV σ k := by
  unfold tdA
  rw [cit_T ⟨k, hk, rfl⟩, fN_nI (by omega)]
set_option maxRecDepth 100000 in
set_option maxHeartbeats 4000000 in
theorem bo_told (L : Nat) (xs : Nat → Int32) (d d' m : Nat) (σ : kS) (x : Int32) (h : bJ m σ) : kXM kT L xs (d + 1) 136 [.ref 0, .int x] σ (fun r τ => ∃ z, r = some (.int z) ∧ kXM kT L xs (d' + 1) 224 [.ref 232, .int x] τ (fun r' ω => r' = some (.int z) ∧ bJ m ω)) := by
  have hb := h
  obtain ⟨n, b, R, S, C, kl, hI, hJ, hT, hR, hS, hC, hK, hU, hF, -⟩ := h
  refine bo_same (v := tdA σ x) hb ?_ ?_
  · unfold kXM
    by_cases hy : ∃ k, k < 6 ∧ x = nI k
    · obtain ⟨k, hk, rfl⟩ := hy
      rw [tdA_k hk]
      have : k = 0 ∨ k = 1 ∨ k = 2 ∨ k = 3 ∨ k = 4 ∨ k = 5 := by omega
      rcases this with rfl | rfl | rfl | rfl | rfl | rfl
      · repeat refine kX_one rfl ?_
        refine kX_ret (i := .ireturn) (len := 1) rfl (Or.inr rfl) rfl (⟨rV (hJ.1.2.1.trans hI.1.2.2.2.1.symm), rfl⟩)
      · repeat refine kX_one rfl ?_
        refine kX_ret (i := .ireturn) (len := 1) rfl (Or.inr rfl) rfl (⟨rV (hJ.2.1.2.1.trans hI.2.1.2.1.symm), rfl⟩)
      · repeat refine kX_one rfl ?_
        refine kX_ret (i := .ireturn) (len := 1) rfl (Or.inr rfl) rfl (⟨rV (hJ.2.2.1.2.1.trans hI.2.2.1.2.1.symm), rfl⟩)
      · repeat refine kX_one rfl ?_
        refine kX_ret (i := .ireturn) (len := 1) rfl (Or.inr rfl) rfl (⟨rV (hJ.2.2.2.1.2.1.trans hI.2.2.2.2.1.2.1.symm), rfl⟩)
      · repeat refine kX_one rfl ?_
        refine kX_ret (i := .ireturn) (len := 1) rfl (Or.inr rfl) rfl (⟨rV (hK.1.trans hI.2.2.2.1.1.symm), rfl⟩)
      · repeat refine kX_one rfl ?_
        refine kX_if (fun q => ?_) (fun q => ?_)
        · have q : σ 181 8 = 0 := qeq q
          have q2 : ¬ σ 232 52 ≠ 0 := fun z => hU.1.mpr z q
          repeat refine kX_one rfl ?_
          refine kX_ret (i := .ireturn) (len := 1) rfl (Or.inr rfl) rfl (⟨rV (show _ = cit (σ 232 52 ≠ 0) (σ 232 55) (-6) by rw [cit_F q2]; rfl), rfl⟩)
        · have q : σ 232 52 ≠ 0 := hU.1.mp (qeqF q)
          repeat refine kX_one rfl ?_
          refine kX_ret (i := .ireturn) (len := 1) rfl (Or.inr rfl) rfl (⟨rV (show _ = cit (σ 232 52 ≠ 0) (σ 232 55) (-6) by rw [cit_T q, ← (hU.2 q).1]), rfl⟩)
    · iterate 1 (refine kX_one rfl ?_)
      refine kX_tabO rfl (kp_out 6 (fun k hk e => hy ⟨k, hk, e⟩) (by decide)) rfl ?_
      repeat refine kX_one rfl ?_
      refine kX_ret (i := .ireturn) (len := 1) rfl (Or.inr rfl) rfl (⟨rV (show _ = tdA σ x by unfold tdA; rw [cit_F (P := isN x 6) hy]; rfl), rfl⟩)
  · unfold kXM
    by_cases hy : ∃ k, k < 6 ∧ x = nI k
    · obtain ⟨k, hk, rfl⟩ := hy
      rw [tdA_k hk]
      have : k = 0 ∨ k = 1 ∨ k = 2 ∨ k = 3 ∨ k = 4 ∨ k = 5 := by omega
      rcases this with rfl | rfl | rfl | rfl | rfl | rfl
      · repeat refine kX_one rfl ?_
        refine kX_ret (i := .ireturn) (len := 1) rfl (Or.inr rfl) rfl (⟨rfl, rfl⟩)
      · repeat refine kX_one rfl ?_
        refine kX_ret (i := .ireturn) (len := 1) rfl (Or.inr rfl) rfl (⟨rfl, rfl⟩)
      · repeat refine kX_one rfl ?_
        refine kX_ret (i := .ireturn) (len := 1) rfl (Or.inr rfl) rfl (⟨rfl, rfl⟩)
      · repeat refine kX_one rfl ?_
        refine kX_ret (i := .ireturn) (len := 1) rfl (Or.inr rfl) rfl (⟨rfl, rfl⟩)
      · repeat refine kX_one rfl ?_
        refine kX_ret (i := .ireturn) (len := 1) rfl (Or.inr rfl) rfl (⟨rfl, rfl⟩)
      · repeat refine kX_one rfl ?_
        refine kX_if (fun q => ?_) (fun q => ?_)
        · have q2 : ¬ σ 232 52 ≠ 0 := fun z => z (qeq q)
          repeat refine kX_one rfl ?_
          refine kX_ret (i := .ireturn) (len := 1) rfl (Or.inr rfl) rfl (⟨rV (show _ = cit (σ 232 52 ≠ 0) (σ 232 55) (-6) by rw [cit_F q2]; rfl), rfl⟩)
        · have q : σ 232 52 ≠ 0 := qeqF q
          repeat refine kX_one rfl ?_
          refine kX_ret (i := .ireturn) (len := 1) rfl (Or.inr rfl) rfl (⟨rV (show _ = cit (σ 232 52 ≠ 0) (σ 232 55) (-6) by rw [cit_T q]), rfl⟩)
    · iterate 1 (refine kX_one rfl ?_)
      refine kX_tabO rfl (kp_out 6 (fun k hk e => hy ⟨k, hk, e⟩) (by decide)) rfl ?_
      repeat refine kX_one rfl ?_
      refine kX_ret (i := .ireturn) (len := 1) rfl (Or.inr rfl) rfl (⟨rV (show _ = tdA σ x by unfold tdA; rw [cit_F (P := isN x 6) hy]; rfl), rfl⟩)
noncomputable def fdV (σ : kS) : Nat → Int32
  | 0 => σ 232 69
  | 1 => σ 232 70
  | 2 => σ 232 72
  | _ => σ 232 71
noncomputable def fdA (σ : kS) (x : Int32) : Int32 := cit (isN x 4) (fdV σ (fN x)) (-2)
theorem fdA_k {σ : kS} {k : Nat} (hk : k < 4) : fdA σ (nI k) = fdV σ k := by
  unfold fdA
  rw [cit_T ⟨k, hk, rfl⟩, fN_nI (by omega)]
set_option maxRecDepth 100000 in
set_option maxHeartbeats 4000000 in
theorem bo_found (L : Nat) (xs : Nat → Int32) (d d' m : Nat) (σ : kS) (x : Int32) (h : bJ m σ) : kXM kT L xs (d + 2) 133 [.ref 0, .int x] σ (fun r τ => ∃ z, r = some (.int z) ∧ kXM kT L xs (d' + 1) 221 [.ref 232, .int x] τ (fun r' ω => r' = some (.int z) ∧ bJ m ω)) := by
  have hb := h
  obtain ⟨n, b, R, S, C, kl, hI, hJ, hT, hR, hS, hC, hK, hU, hF, -⟩ := h
  refine bo_same (v := fdA σ x) hb ?_ ?_
  · unfold kXM
    by_cases hy : ∃ k, k < 4 ∧ x = nI k
    · obtain ⟨k, hk, rfl⟩ := hy
      rw [fdA_k hk]
      have : k = 0 ∨ k = 1 ∨ k = 2 ∨ k = 3 := by omega
      rcases this with rfl | rfl | rfl | rfl
      · repeat refine kX_one rfl ?_
        refine kX_ret (i := .ireturn) (len := 1) rfl (Or.inr rfl) rfl (⟨rV hF.1, rfl⟩)
      · repeat refine kX_one rfl ?_
        refine kX_ret (i := .ireturn) (len := 1) rfl (Or.inr rfl) rfl (⟨rV hF.2.1, rfl⟩)
      · repeat refine kX_one rfl ?_
        refine kX_cal (mc_hasAttack L xs d σ) rfl (Or.inr rfl) rfl rfl rfl (fun r1 σ1 q1 => ?_)
        obtain ⟨rfl, rfl⟩ := q1
        have e := hF.2.2.2.1
        unfold nnI at e
        repeat refine kX_one rfl ?_
        refine kX_if (fun q => ?_) (fun q => ?_)
        · have q : σ 195 9 = -1 := Classical.byContradiction (fun z => isB_ne.mpr z (qeq q))
          rw [if_pos q] at e
          repeat refine kX_one rfl ?_
          refine kX_ret (i := .ireturn) (len := 1) rfl (Or.inr rfl) rfl (⟨rV e, rfl⟩)
        · have q := isB_ne.mp (qeqF q)
          rw [if_neg q] at e
          repeat refine kX_one rfl ?_
          refine kX_ret (i := .ireturn) (len := 1) rfl (Or.inr rfl) rfl (⟨rV e, rfl⟩)
      · repeat refine kX_one rfl ?_
        refine kX_ret (i := .ireturn) (len := 1) rfl (Or.inr rfl) rfl (⟨rV hF.2.2.1, rfl⟩)
    · iterate 1 (refine kX_one rfl ?_)
      refine kX_tabO rfl (kp_out 4 (fun k hk e => hy ⟨k, hk, e⟩) (by decide)) rfl ?_
      repeat refine kX_one rfl ?_
      refine kX_ret (i := .ireturn) (len := 1) rfl (Or.inr rfl) rfl (⟨rV (show _ = fdA σ x by unfold fdA; rw [cit_F (P := isN x 4) hy]; rfl), rfl⟩)
  · unfold kXM
    by_cases hy : ∃ k, k < 4 ∧ x = nI k
    · obtain ⟨k, hk, rfl⟩ := hy
      rw [fdA_k hk]
      have : k = 0 ∨ k = 1 ∨ k = 2 ∨ k = 3 := by omega
      rcases this with rfl | rfl | rfl | rfl
      · repeat refine kX_one rfl ?_
        refine kX_ret (i := .ireturn) (len := 1) rfl (Or.inr rfl) rfl (⟨rfl, rfl⟩)
      · repeat refine kX_one rfl ?_
        refine kX_ret (i := .ireturn) (len := 1) rfl (Or.inr rfl) rfl (⟨rfl, rfl⟩)
      · repeat refine kX_one rfl ?_
        refine kX_ret (i := .ireturn) (len := 1) rfl (Or.inr rfl) rfl (⟨rfl, rfl⟩)
      · repeat refine kX_one rfl ?_
        refine kX_ret (i := .ireturn) (len := 1) rfl (Or.inr rfl) rfl (⟨rfl, rfl⟩)
    · iterate 1 (refine kX_one rfl ?_)
      refine kX_tabO rfl (kp_out 4 (fun k hk e => hy ⟨k, hk, e⟩) (by decide)) rfl ?_
      repeat refine kX_one rfl ?_
      refine kX_ret (i := .ireturn) (len := 1) rfl (Or.inr rfl) rfl (⟨rV (show _ = fdA σ x by unfold fdA; rw [cit_F (P := isN x 4) hy]; rfl), rfl⟩)
noncomputable def akA (σ : kS) (x : Int32) : Int32 := cit (isN x (fN (σ 232 72))) (σ 288 (fN x)) (-6)
set_option maxRecDepth 100000 in
set_option maxHeartbeats 4000000 in
theorem bo_attack (L : Nat) (xs : Nat → Int32) (d d' m : Nat) (σ : kS) (x : Int32) (h : bJ m σ) : kXM kT L xs (d + 2) 134 [.ref 0, .int x] σ (fun r τ => ∃ z, r = some (.int z) ∧ kXM kT L xs (d' + 1) 222 [.ref 232, .int x] τ (fun r' ω => r' = some (.int z) ∧ bJ m ω)) := by
  have hb := h
  obtain ⟨n, b, R, S, C, kl, hI, hJ, hT, hR, hS, hC, hK, hU, hF, -⟩ := h
  have e := hF.2.2.2.1
  unfold nnI at e
  have e6 : fN (-6) = 0 := by decide
  refine bo_same (v := akA σ x) hb ?_ ?_
  · unfold kXM
    iterate 2 (refine kX_one rfl ?_)
    refine kX_cal (mc_hasAttack L xs d σ) rfl (Or.inr rfl) rfl rfl rfl (fun r1 σ1 q1 => ?_)
    obtain ⟨rfl, rfl⟩ := q1
    have k37 : ¬ isN x (fN (σ 232 72)) → kX kT L xs (d + 2) 134 37 (lv_args 0 [.ref 0, .int x]) [] σ (fun r σ' => r = some (.int (akA σ x)) ∧ σ = σ') := by
      intro q
      repeat refine kX_one rfl ?_
      refine kX_ret (i := .ireturn) (len := 1) rfl (Or.inr rfl) rfl (⟨rV (show _ = akA σ x by unfold akA; rw [cit_F q]; rfl), rfl⟩)
    repeat refine kX_one rfl ?_
    refine kX_if (fun q => ?_) (fun q => ?_)
    · have q : σ 195 9 = -1 := Classical.byContradiction (fun z => isB_ne.mpr z (qeq q))
      rw [if_pos q] at e
      exact k37 (fun ⟨j, j1, j2⟩ => by rw [← e, e6] at j1; omega)
    · have q := isB_ne.mp (qeqF q)
      rw [if_neg q] at e
      obtain ⟨as, N, -, -, -, a1, a2, a3, a4, -⟩ := hF.2.2.2.2.2 q
      have l2 := e.trans a2
      repeat refine kX_one rfl ?_
      refine kX_if (fun q2 => ?_) (fun q2 => ?_)
      · have q2 : x < 0 := of_decide_eq_true q2
        exact k37 (fun ⟨j, j1, j2⟩ => by
          rw [a2, fN_nI (by omega)] at j1
          rw [j2] at q2
          exact nI_pos (by omega) q2)
      · have q2 : ¬ x < 0 := of_decide_eq_false q2
        obtain ⟨k, hk, rfl⟩ := nI_of q2
        iterate 4 (refine kX_one rfl ?_)
        refine kX_top (l2) ?_
        repeat refine kX_one rfl ?_
        refine kX_if (fun q3 => ?_) (fun q3 => ?_)
        · have q3 := qge q3 k as.length
          exact k37 (fun ⟨j, j1, j2⟩ => by
            rw [a2, fN_nI (by omega)] at j1
            have := nI_inj j2
            omega)
        · have q3 := qgeF q3 k as.length
          iterate 4 (refine kX_one rfl ?_)
          refine kX_ialdN rfl rfl (by decide) (k) (by first | rfl | decide) (by omega) ?_
          repeat refine kX_one rfl ?_
          refine kX_ret (i := .ireturn) (len := 1) rfl (Or.inr rfl) rfl (⟨rV (show _ = akA σ (nI k) by unfold akA; rw [cit_T ⟨k, by rw [a2, fN_nI (by omega)]; exact q3, rfl⟩, fN_nI (by omega), a4 k q3, a3 k q3]), rfl⟩)
  · unfold kXM
    repeat refine kX_one rfl ?_
    refine kX_cal (mr_in L xs d' σ _ _ _) rfl (Or.inr rfl) rfl rfl rfl (fun r1 σ1 q1 => ?_)
    obtain ⟨rfl, rfl⟩ := q1
    rw [isB_dec]
    repeat refine kX_one rfl ?_
    refine kX_if (fun q => ?_) (fun q => ?_)
    · have q := qeq q
      have hq : (-6 : Int32) = akA σ x := by
        unfold akA
        rw [cit_F (fun z => ?_)]
        rcases hI.2.2.2.2.2.2 with hA | ⟨as, fin, a0, a1, -⟩
        · rw [hA, e6] at z
          obtain ⟨j, j1, -⟩ := z
          omega
        · rw [a1, fN_nI (by omega)] at z
          refine isB_ne.mpr ?_ q
          show ¬ x.toInt64 < (0 : Int32).toInt64 ∧ ¬ (σ 232 72 - 1).toInt64 < x.toInt64
          rw [a1]
          exact (in_N (by omega)).mpr z
      repeat refine kX_one rfl ?_
      refine kX_ret (i := .ireturn) (len := 1) rfl (Or.inr rfl) rfl (⟨rV hq, rfl⟩)
    · obtain ⟨q1, q2⟩ := isB_ne.mp (qeqF q)
      rcases hI.2.2.2.2.2.2 with hA | ⟨as, fin, a0, a1, -⟩
      · exfalso
        have q1 : ¬ x.toInt64 < (0 : Int32).toInt64 := q1
        have q2 : ¬ (σ 232 72 - 1).toInt64 < x.toInt64 := q2
        rw [i64_lt] at q1 q2
        rw [hA] at q2
        obtain ⟨j, hj, rfl⟩ := nI_of q1
        rw [Int32.lt_iff_toInt_lt, nI_toInt hj] at q2
        have : ((-6 : Int32) - 1).toInt = -7 := by decide
        omega
      · have q2 : ¬ (σ 232 72 - 1).toInt64 < x.toInt64 := q2
        rw [a1] at q2
        obtain ⟨j, hj, rfl⟩ := (in_N (by omega)).mp ⟨q1, q2⟩
        repeat refine kX_one rfl ?_
        refine kX_ialdN rfl rfl (by decide) (j) (by first | rfl | decide) (by omega) ?_
        repeat refine kX_one rfl ?_
        refine kX_ret (i := .ireturn) (len := 1) rfl (Or.inr rfl) rfl (⟨rV (show _ = akA σ (nI j) by unfold akA; rw [cit_T ⟨j, by rw [a1, fN_nI (by omega)]; exact hj, rfl⟩, fN_nI (by omega)]), rfl⟩)
noncomputable def dnA (σ : kS) (S : Nat) (x : Int32) : Int32 := cit (isN x S) (cit (σ 232 52 ≠ 0) (σ 264 (fN x)) (-3)) (-1)
set_option maxRecDepth 100000 in
set_option maxHeartbeats 4000000 in
theorem bo_done (L : Nat) (xs : Nat → Int32) (d d' m : Nat) (σ : kS) (x : Int32) (h : bJ m σ) : kXM kT L xs (d + 2) 129 [.ref 0, .int x] σ (fun r τ => ∃ z, r = some (.int z) ∧ kXM kT L xs (d' + 2) 206 [.ref 232, .int x] τ (fun r' ω => r' = some (.int z) ∧ bJ m ω)) := by
  have hb := h
  obtain ⟨n, b, R, S, C, kl, hI, hJ, hT, hR, hS, hC, hK, hU, hF, -⟩ := h
  have hS4 := hJ.2.2.1.1
  refine bo_same (v := dnA σ S x) hb ?_ ?_
  · unfold kXM
    iterate 3 (refine kX_one rfl ?_)
    refine kX_cal (mc_hasSession L xs d σ S x hS4 hJ.2.2.1.2.1) rfl (Or.inr rfl) rfl rfl rfl (fun r1 σ1 q1 => ?_)
    obtain ⟨rfl, rfl⟩ := q1
    repeat refine kX_one rfl ?_
    refine kX_if (fun q => ?_) (fun q => ?_)
    · have hx := isB_ne.mp (qne q)
      obtain ⟨s, hs, rfl⟩ := hx
      repeat refine kX_one rfl ?_
      refine kX_if (fun q2 => ?_) (fun q2 => ?_)
      · have q2 : ¬ σ 232 52 ≠ 0 := fun z => hU.1.mpr z (qeq q2)
        repeat refine kX_one rfl ?_
        refine kX_ret (i := .ireturn) (len := 1) rfl (Or.inr rfl) rfl (⟨rV (show _ = dnA σ S (nI s) by unfold dnA; rw [cit_T ⟨s, hs, rfl⟩, cit_F q2]; rfl), rfl⟩)
      · have q2 : σ 232 52 ≠ 0 := hU.1.mp (qeqF q2)
        repeat refine kX_one rfl ?_
        refine kX_cal (mc_doneBy L xs d σ 182 28 0 s (fun _ => 0) rfl (by decide) (by omega)) rfl (Or.inr rfl) rfl rfl rfl (fun r1 σ1 q1 => ?_)
        obtain ⟨rfl, rfl⟩ := q1
        repeat refine kX_one rfl ?_
        refine kX_ret (i := .ireturn) (len := 1) rfl (Or.inr rfl) rfl (⟨rV (show _ = dnA σ S (nI s) by unfold dnA; rw [cit_T ⟨s, hs, rfl⟩, cit_T q2, fN_nI (by omega), Nat.zero_add]; exact ((hU.2 q2).2.2.1 s hs).1), rfl⟩)
    · have q : ¬ isN x S := fun z => isB_ne.mpr z (qneF q)
      repeat refine kX_one rfl ?_
      refine kX_ret (i := .ireturn) (len := 1) rfl (Or.inr rfl) rfl (⟨rV (show _ = dnA σ S x by unfold dnA; rw [cit_F q]; rfl), rfl⟩)
  · unfold kXM
    repeat refine kX_one rfl ?_
    refine kX_cal (mr_isSession L xs d' σ S x hI.2.2.1.2.1 (by omega)) rfl (Or.inr rfl) rfl rfl rfl (fun r1 σ1 q1 => ?_)
    obtain ⟨rfl, rfl⟩ := q1
    repeat refine kX_one rfl ?_
    refine kX_if (fun q => ?_) (fun q => ?_)
    · obtain ⟨s, hs, rfl⟩ := isB_ne.mp (qne q)
      repeat refine kX_one rfl ?_
      refine kX_if (fun q2 => ?_) (fun q2 => ?_)
      · have q2 : ¬ σ 232 52 ≠ 0 := fun z => z (qeq q2)
        repeat refine kX_one rfl ?_
        refine kX_ret (i := .ireturn) (len := 1) rfl (Or.inr rfl) rfl (⟨rV (show _ = dnA σ S (nI s) by unfold dnA; rw [cit_T ⟨s, hs, rfl⟩, cit_F q2]; rfl), rfl⟩)
      · have q2 : σ 232 52 ≠ 0 := qeqF q2
        repeat refine kX_one rfl ?_
        refine kX_ialdN rfl rfl (by decide) (s) (by first | rfl | decide) (by omega) ?_
        repeat refine kX_one rfl ?_
        refine kX_ret (i := .ireturn) (len := 1) rfl (Or.inr rfl) rfl (⟨rV (show _ = dnA σ S (nI s) by unfold dnA; rw [cit_T ⟨s, hs, rfl⟩, cit_T q2, fN_nI (by omega)]), rfl⟩)
    · have q : ¬ isN x S := fun z => isB_ne.mpr z (qneF q)
      repeat refine kX_one rfl ?_
      refine kX_ret (i := .ireturn) (len := 1) rfl (Or.inr rfl) rfl (⟨rV (show _ = dnA σ S x by unfold dnA; rw [cit_F q]; rfl), rfl⟩)
noncomputable def saA (σ : kS) (S : Nat) (x y : Int32) : Int32 := cit (isN x S ∧ isN y (fN (σ 244 (fN (σ 255 (fN x)))))) (cit (σ 232 52 ≠ 0) (σ 265 (6 * fN x + fN y)) (-3)) (-1)
set_option maxRecDepth 100000 in
set_option maxHeartbeats 4000000 in
theorem bo_stands (L : Nat) (xs : Nat → Int32) (d d' m : Nat) (σ : kS) (x y : Int32) (h : bJ m σ) : kXM kT L xs (d + 3) 128 [.ref 0, .int x, .int y] σ (fun r τ => ∃ z, r = some (.int z) ∧ kXM kT L xs (d' + 2) 205 [.ref 232, .int x, .int y] τ (fun r' ω => r' = some (.int z) ∧ bJ m ω)) := by
  have hb := h
  obtain ⟨n, b, R, S, C, kl, hI, hJ, hT, hR, hS, hC, hK, hU, hF, -⟩ := h
  have hS4 := hJ.2.2.1.1
  have hR4 := hI.2.1.1
  refine bo_same (v := saA σ S x y) hb ?_ ?_
  · unfold kXM
    iterate 3 (refine kX_one rfl ?_)
    refine kX_cal (mc_hasSession L xs (d + 1) σ S x hS4 hJ.2.2.1.2.1) rfl (Or.inr rfl) rfl rfl rfl (fun r1 σ1 q1 => ?_)
    obtain ⟨rfl, rfl⟩ := q1
    repeat refine kX_one rfl ?_
    refine kX_if (fun q => ?_) (fun q => ?_)
    · have q : ¬ isN x S := fun z => isB_ne.mpr z (qeq q)
      repeat refine kX_one rfl ?_
      refine kX_ret (i := .ireturn) (len := 1) rfl (Or.inr rfl) rfl (⟨rV (show _ = saA σ S x y by unfold saA; rw [cit_F (fun z => q z.1)]; rfl), rfl⟩)
    · obtain ⟨s, hs, rfl⟩ := isB_ne.mp (qeqF q)
      obtain ⟨r, r1, r2, -⟩ := hI.2.2.1.2.2 s hs
      obtain ⟨⟨v0, hv6, hv⟩, -⟩ := hI.2.1.2.2.1 r r1
      have efr : fN (σ 255 s) = r := by rw [r2, fN_nI (by omega)]
      iterate 6 (refine kX_one rfl ?_)
      refine kX_ialdN rfl rfl (by decide) (s) (by first | rfl | decide) (by omega) ?_
      iterate 1 (refine kX_one rfl ?_)
      refine kX_cal (mc_hasVariable L xs d σ n R _ y hJ.2.1) rfl (Or.inr rfl) rfl rfl rfl (fun r1 σ1 q1 => ?_)
      obtain ⟨rfl, rfl⟩ := q1
      repeat refine kX_one rfl ?_
      refine kX_if (fun q2 => ?_) (fun q2 => ?_)
      · obtain ⟨ro, v, o1, o2, v6, rfl, v7⟩ := isB_ne.mp (qne q2)
        obtain rfl : ro = r := by
          rw [(hS s hs).1, r2] at o2
          exact (nI_inj o2).symm
        rw [(hR ro o1).1] at v7
        have hP : isN (nI s) S ∧ isN (nI v) (fN (σ 244 (fN (σ 255 (fN (nI s)))))) := ⟨⟨s, hs, rfl⟩, v, by rw [fN_nI (show s < 2147483648 by omega), efr]; exact v7, rfl⟩
        repeat refine kX_one rfl ?_
        refine kX_if (fun q3 => ?_) (fun q3 => ?_)
        · have q3 : σ 232 52 ≠ 0 := hU.1.mp (qne q3)
          repeat refine kX_one rfl ?_
          refine kX_cal (mc_valueOf L xs (d + 1) σ 182 28 0 s v (fun _ => 0) rfl (by decide) (by omega)) rfl (Or.inr rfl) rfl rfl rfl (fun r1 σ1 q1 => ?_)
          obtain ⟨rfl, rfl⟩ := q1
          refine kX_cal (mc_orNone L xs (d + 1) σ _) rfl (Or.inr rfl) rfl rfl rfl (fun r1 σ1 q1 => ?_)
          obtain ⟨rfl, rfl⟩ := q1
          refine kX_ret (i := .ireturn) (len := 1) rfl (Or.inr rfl) rfl (⟨rV (show _ = saA σ S (nI s) (nI v) by unfold saA; rw [cit_T hP, cit_T q3, fN_nI (by omega), fN_nI (by omega), Nat.zero_add]; exact ((hU.2 q3).2.2.1 s hs).2 v (by omega)), rfl⟩)
        · have q3 : ¬ σ 232 52 ≠ 0 := fun z => hU.1.mpr z (qneF q3)
          repeat refine kX_one rfl ?_
          refine kX_ret (i := .ireturn) (len := 1) rfl (Or.inr rfl) rfl (⟨rV (show _ = saA σ S (nI s) (nI v) by unfold saA; rw [cit_T hP, cit_F q3]; rfl), rfl⟩)
      · have q2 := qneF q2
        have hq : (-1 : Int32) = saA σ S (nI s) y := by
          unfold saA
          rw [cit_F (fun z => ?_)]
          obtain ⟨-, v, v1, rfl⟩ := z
          rw [fN_nI (show s < 2147483648 by omega), efr] at v1
          refine isB_ne.mpr ⟨r, v, r1, (hS s hs).1.trans r2, ?_, rfl, ?_⟩ q2
          · rw [hv, fN_nI (by omega)] at v1
            omega
          · rw [(hR r r1).1]
            exact v1
        repeat refine kX_one rfl ?_
        refine kX_ret (i := .ireturn) (len := 1) rfl (Or.inr rfl) rfl (⟨rV hq, rfl⟩)
  · unfold kXM
    repeat refine kX_one rfl ?_
    refine kX_cal (mr_isSession L xs d' σ S x hI.2.2.1.2.1 (by omega)) rfl (Or.inr rfl) rfl rfl rfl (fun r1 σ1 q1 => ?_)
    obtain ⟨rfl, rfl⟩ := q1
    repeat refine kX_one rfl ?_
    refine kX_if (fun q => ?_) (fun q => ?_)
    · have q : ¬ isN x S := fun z => isB_ne.mpr z (qeq q)
      repeat refine kX_one rfl ?_
      refine kX_ret (i := .ireturn) (len := 1) rfl (Or.inr rfl) rfl (⟨rV (show _ = saA σ S x y by unfold saA; rw [cit_F (fun z => q z.1)]; rfl), rfl⟩)
    · obtain ⟨s, hs, rfl⟩ := isB_ne.mp (qeqF q)
      obtain ⟨r, r1, r2, -⟩ := hI.2.2.1.2.2 s hs
      obtain ⟨⟨v, hv6, hv⟩, -⟩ := hI.2.1.2.2.1 r r1
      have efr : fN (σ 255 s) = r := by rw [r2, fN_nI (by omega)]
      have evr : fN (σ 244 (fN (σ 255 (fN (nI s))))) = v := by rw [fN_nI (show s < 2147483648 by omega), efr, hv, fN_nI (by omega)]
      repeat refine kX_one rfl ?_
      refine kX_ialdV rfl rfl (by decide) (s) (by first | rfl | decide) (by omega) (r2) ?_
      refine kX_ialdV rfl rfl (by decide) (r) (by first | rfl | decide) (by omega) (hv) ?_
      repeat refine kX_one rfl ?_
      refine kX_cal (mr_in L xs (d' + 1) σ _ _ _) rfl (Or.inr rfl) rfl rfl rfl (fun r1 σ1 q1 => ?_)
      obtain ⟨rfl, rfl⟩ := q1
      repeat refine kX_one rfl ?_
      refine kX_if (fun q2 => ?_) (fun q2 => ?_)
      · have q2 := of_decide_eq_true ((bI_ne _).mp (qne q2))
        obtain ⟨k, hk, rfl⟩ : isN y v := (in_N (by omega)).mp q2
        have hP : isN (nI s) S ∧ isN (nI k) (fN (σ 244 (fN (σ 255 (fN (nI s)))))) := ⟨⟨s, hs, rfl⟩, k, by rw [evr]; exact hk, rfl⟩
        repeat refine kX_one rfl ?_
        refine kX_if (fun q3 => ?_) (fun q3 => ?_)
        · have q3 : ¬ σ 232 52 ≠ 0 := fun z => z (qeq q3)
          repeat refine kX_one rfl ?_
          refine kX_ret (i := .ireturn) (len := 1) rfl (Or.inr rfl) rfl (⟨rV (show _ = saA σ S (nI s) (nI k) by unfold saA; rw [cit_T hP, cit_F q3]; rfl), rfl⟩)
        · have q3 : σ 232 52 ≠ 0 := qeqF q3
          repeat refine kX_one rfl ?_
          refine kX_ialdN rfl rfl (by decide) (6 * s + k) (ix6 s k) (by omega) ?_
          repeat refine kX_one rfl ?_
          refine kX_ret (i := .ireturn) (len := 1) rfl (Or.inr rfl) rfl (⟨rV (show _ = saA σ S (nI s) (nI k) by unfold saA; rw [cit_T hP, cit_T q3, fN_nI (by omega), fN_nI (by omega)]), rfl⟩)
      · have q2 : ¬ isN y v := fun z => by
          have := of_decide_eq_false ((bI_eq _).mp (qneF q2))
          exact this ((in_N (by omega)).mpr z)
        repeat refine kX_one rfl ?_
        refine kX_ret (i := .ireturn) (len := 1) rfl (Or.inr rfl) rfl (⟨rV (show _ = saA σ S (nI s) y by unfold saA; rw [cit_F (fun z => q2 (by rw [evr] at z; exact z.2))]; rfl), rfl⟩)
