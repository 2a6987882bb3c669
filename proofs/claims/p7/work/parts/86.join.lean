/-! the reference: join -/
set_option maxRecDepth 100000 in
set_option maxHeartbeats 4000000 in
theorem mr_joinT (L : Nat) (xs : Nat → Int32) (d : Nat) (σ : kS) (c j : Nat) (k k' : Int32) (hc : c < 6) (hj : j < 4) (e9 : σ 261 c = nI j) (Q : Option Value → kS → Prop) (hQ : ∀ x, Q (some (.int x)) (jnS σ c j k k')) : kX kT L xs (d + 1) 174 91 [(0, .ref 232), (1, .int (nI c)), (2, .int k), (3, .int k')] [] σ Q := by
  repeat refine kX_one rfl ?_
  refine kX_ialdV rfl rfl (by decide) (c) (by first | rfl | decide) (by omega) (e9) ?_
  repeat refine kX_one rfl ?_
  refine kX_iastN rfl rfl (by decide) (4 * c + j) (ix4 c j) (by omega) ?_
  repeat refine kX_one rfl ?_
  refine kX_ialdV rfl rfl (by decide) (c) (by first | rfl | decide) (by omega) (e9) ?_
  repeat refine kX_one rfl ?_
  refine kX_iastN rfl rfl (by decide) (4 * c + j) (ix4 c j) (by omega) ?_
  repeat refine kX_one rfl ?_
  refine kX_ialdV rfl rfl (by decide) (c) (by first | rfl | decide) (by omega) (e9) ?_
  repeat refine kX_one rfl ?_
  refine kX_iastN rfl rfl (by decide) (c) (by first | rfl | decide) (by omega) ?_
  repeat refine kX_one rfl ?_
  refine kX_ialdN rfl rfl (by decide) (c) (by first | rfl | decide) (by omega) ?_
  refine kX_st (jnS σ c j k k') ?_ ?_
  · rw [jnS, nI_succ j]
    rfl
  refine kX_ret (i := .ireturn) (len := 1) rfl (Or.inr rfl) rfl (hQ _)
set_option maxRecDepth 100000 in
set_option maxHeartbeats 4000000 in
theorem mr_join30 (L : Nat) (xs : Nat → Int32) (d : Nat) (σ : kS) (c p a j v w : Nat) (y z : Int32) (hc : c < 6) (hp : p < 4) (ha : a < 4) (hv6 : v ≤ 6) (hw6 : w ≤ 6) (hj4 : j ≤ 4) (e2 : σ 258 c = nI p) (e3 : σ 259 c = nI a) (e9 : σ 261 c = nI j) (hv : σ 244 p = nI v) (hw : σ 244 a = nI w) (Q : Option Value → kS → Prop) (hQ : ∀ x, Q (some (.int x)) σ) (hG : ∀ k k', k < v → k' < w → j < 4 → ∀ x, Q (some (.int x)) (jnS σ c j (nI k) (nI k'))) : kX kT L xs (d + 1) 174 30 [(0, .ref 232), (1, .int (nI c)), (2, .int y), (3, .int z)] [] σ Q := by
  have k78 : ∀ k k', k < v → k' < w → kX kT L xs (d + 1) 174 78 [(0, .ref 232), (1, .int (nI c)), (2, .int (nI k)), (3, .int (nI k'))] [] σ Q := by
    intro k k' hk hk'
    repeat refine kX_one rfl ?_
    refine kX_ialdV rfl rfl (by decide) (c) (by first | rfl | decide) (by omega) (e9) ?_
    repeat refine kX_one rfl ?_
    refine kX_if (fun q => ?_) (fun q => ?_)
    · have hj : j ≠ 4 := fun e => qne q (by rw [e]; rfl)
      exact mr_joinT L xs d σ c j (nI k) (nI k') (by omega) (by omega) e9 _ (hG k k' hk hk' (by omega))
    · repeat refine kX_one rfl ?_
      refine kX_ret (i := .ireturn) (len := 1) rfl (Or.inr rfl) rfl (hQ _)
  have k53 : ∀ k, k < v → kX kT L xs (d + 1) 174 53 [(0, .ref 232), (1, .int (nI c)), (2, .int (nI k)), (3, .int z)] [] σ Q := by
    intro k hk
    repeat refine kX_one rfl ?_
    refine kX_ialdV rfl rfl (by decide) (c) (by first | rfl | decide) (by omega) (e3) ?_
    refine kX_ialdV rfl rfl (by decide) (a) (by first | rfl | decide) (by omega) (hw) ?_
    repeat refine kX_one rfl ?_
    refine kX_cal (mr_in L xs d σ _ _ _) rfl (Or.inr rfl) rfl rfl rfl (fun r1 σ1 q1 => ?_)
    obtain ⟨rfl, rfl⟩ := q1
    rw [isB_dec]
    repeat refine kX_one rfl ?_
    refine kX_if (fun q => ?_) (fun q => ?_)
    · obtain ⟨q1, q2⟩ := isB_ne.mp (qne q)
      obtain ⟨k', hk', rfl⟩ := (in_N (n := w) (by omega)).mp ⟨q1, q2⟩
      exact k78 k k' hk hk'
    · repeat refine kX_one rfl ?_
      refine kX_ret (i := .ireturn) (len := 1) rfl (Or.inr rfl) rfl (hQ _)
  repeat refine kX_one rfl ?_
  refine kX_ialdV rfl rfl (by decide) (c) (by first | rfl | decide) (by omega) (e2) ?_
  refine kX_ialdV rfl rfl (by decide) (p) (by first | rfl | decide) (by omega) (hv) ?_
  repeat refine kX_one rfl ?_
  refine kX_cal (mr_in L xs d σ _ _ _) rfl (Or.inr rfl) rfl rfl rfl (fun r1 σ1 q1 => ?_)
  obtain ⟨rfl, rfl⟩ := q1
  rw [isB_dec]
  repeat refine kX_one rfl ?_
  refine kX_if (fun q => ?_) (fun q => ?_)
  · repeat refine kX_one rfl ?_
    refine kX_ret (i := .ireturn) (len := 1) rfl (Or.inr rfl) rfl (hQ _)
  · obtain ⟨q1, q2⟩ := isB_ne.mp (qeqF q)
    obtain ⟨k, hk, rfl⟩ := (in_N (n := v) (by omega)).mp ⟨q1, q2⟩
    exact k53 k hk
set_option maxRecDepth 100000 in
set_option maxHeartbeats 4000000 in
theorem mp_join (L : Nat) (xs : Nat → Int32) (d : Nat) (σ : kS) (n b R S C : Nat) (kl : List Nat) (x y z : Int32) (h : mI σ n b R S C kl) : kXM kT L xs (d + 1) 174 [.ref 232, .int x, .int y, .int z] σ (fun r σ' => (∃ x, r = some (.int x)) ∧ mAfter σ σ' R) := by
  have h2 := h.2.1
  have hR4 := h2.1
  have h5 := h.2.2.2.2.1
  have hC6 := h5.1
  unfold kXM
  repeat refine kX_one rfl ?_
  refine kX_cal (mr_in L xs d σ _ _ _) rfl (Or.inr rfl) rfl rfl rfl (fun r1 σ1 q1 => ?_)
  obtain ⟨rfl, rfl⟩ := q1
  rw [isB_dec]
  repeat refine kX_one rfl ?_
  refine kX_if (fun q => ?_) (fun q => ?_)
  · obtain ⟨q1, q2⟩ := isB_ne.mp (qne q)
    have q2 : ¬ (σ 232 30 - 1).toInt64 < x.toInt64 := q2
    rw [h5.2.1] at q2
    obtain ⟨c, hc, rfl⟩ := (in_N (by omega)).mp ⟨q1, q2⟩
    obtain ⟨p, a, nn, j, e1, e2, e3, e4, e5, e6, e7, e8, e9, e10⟩ := h5.2.2 c hc
    repeat refine kX_one rfl ?_
    refine kX_baldN rfl rfl (by decide) (c) (by first | rfl | decide) (by omega) ?_
    repeat refine kX_one rfl ?_
    refine kX_if (fun q => ?_) (fun q => ?_)
    · have hs : σ 257 c = 0 := qeq q
      have haR := e5 hs
      obtain ⟨⟨v, hv6, hv⟩, -⟩ := h2.2.2.1 p e1
      obtain ⟨⟨w, hw6, hw⟩, -⟩ := h2.2.2.1 a haR
      exact mr_join30 L xs d σ c p a j v w y z (by omega) (by omega) (by omega) hv6 hw6 e8 e2 e3 e9 hv hw _ (fun x => ⟨⟨_, rfl⟩, mAfter_same h⟩) (fun k k' hk hk' hj x => ⟨⟨_, rfl⟩, mLow_jn σ c j _ _, n, b, S, C, kl, mI_jn h hc e9 hj e2 e1 e3 haR (by rw [hv, fN_nI (by omega)]; exact hk) (by rw [hw, fN_nI (by omega)]; exact hk')⟩)
    · repeat refine kX_one rfl ?_
      refine kX_ret (i := .ireturn) (len := 1) rfl (Or.inr rfl) rfl (⟨⟨_, rfl⟩, mAfter_same h⟩)
  · repeat refine kX_one rfl ?_
    refine kX_ret (i := .ireturn) (len := 1) rfl (Or.inr rfl) rfl (⟨⟨_, rfl⟩, mAfter_same h⟩)
