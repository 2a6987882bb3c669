/-! the class: play -/
theorem max_ok (k : Nat) (h : k < 2147483648) : jmmv 1 0 (nI k) = nI k := by
  unfold jmmv
  rw [if_pos rfl]
  by_cases e : (0 : Int32) < nI k
  · rw [if_pos e]
  · rw [if_neg e]
    rw [Int32.lt_iff_toInt_lt, nI_toInt h] at e
    have : (0 : Int32).toInt = 0 := rfl
    have : k = 0 := by omega
    rw [this]
    rfl
set_option maxRecDepth 100000 in
set_option maxHeartbeats 4000000 in
theorem mc_attackBase (L : Nat) (xs : Nat → Int32) (d : Nat) (σ : kS) (N : Nat) (hN : N < 600) (hc : σ 196 5 = nI (N + 1)) : kXM kT L xs (d + 1) 78 [.ref 195] σ (fun r σ' => r = some (.int (nI (28 * N))) ∧ σ = σ') := by
  unfold kXM
  iterate 4 (refine kX_one rfl ?_)
  refine kX_top (hc) ?_
  iterate 2 (refine kX_one rfl ?_)
  refine kX_top (y := nI N) (nI_pred N) ?_
  iterate 1 (refine kX_one rfl ?_)
  refine kX_top (y := nI N) (max_ok N (by omega)) ?_
  iterate 2 (refine kX_one rfl ?_)
  refine kX_top (y := nI (28 * N)) (ix28 N) ?_
  refine kX_ret (i := .ireturn) (len := 1) rfl (Or.inr rfl) rfl (⟨rfl, rfl⟩)
set_option maxRecDepth 100000 in
set_option maxHeartbeats 4000000 in
theorem mk_play (L : Nat) (xs : Nat → Int32) (d : Nat) (σ : kS) (n R S C : Nat) (x : Int32) (h : cJ σ n R S C) : kXM kT L xs (d + 56) 135 [.ref 0, .int x] σ (fun r σ' => (∃ x, r = some (.int x)) ∧ cAfter σ σ' R) := by
  have hha : kXM kT L xs (d + 55) 77 [.ref 195] σ (fun r σ' => (r = some (.int 0) ∨ (r = some (.int 1) ∧ σ 195 9 ≠ -1)) ∧ σ = σ') := by
    unfold kXM
    repeat refine kX_one rfl ?_
    refine kX_if (fun q => ?_) (fun q => ?_)
    · repeat refine kX_one rfl ?_
      refine kX_ret (i := .ireturn) (len := 1) rfl (Or.inr rfl) rfl (⟨Or.inl rfl, rfl⟩)
    · have q : σ 195 9 ≠ -1 := qeqF q
      repeat refine kX_one rfl ?_
      refine kX_ret (i := .ireturn) (len := 1) rfl (Or.inr rfl) rfl (⟨Or.inr ⟨rfl, q⟩, rfl⟩)
  obtain ⟨N, s1, s2, s3, s4, s5⟩ := h.2.2.2.2.2.2.2.2.2.1
  unfold kXM
  iterate 2 (refine kX_one rfl ?_)
  refine kX_cal hha rfl (Or.inr rfl) rfl rfl rfl (fun r1 σ1 q1 => ?_)
  obtain ⟨hq, rfl⟩ := q1
  rcases hq with rfl | ⟨rfl, hln⟩
  · repeat refine kX_one rfl ?_
    refine kX_ret (i := .ireturn) (len := 1) rfl (Or.inr rfl) rfl (⟨⟨_, rfl⟩, cAfter_same h⟩)
  · obtain ⟨N0, ln, l1, l2, l3⟩ := s5.resolve_left hln
    obtain ⟨N', rfl⟩ : ∃ N', N = N' + 1 := ⟨N - 1, by omega⟩
    iterate 1 (refine kX_one rfl ?_)
    repeat refine kX_one rfl ?_
    refine kX_if (fun q => ?_) (fun q => ?_)
    · repeat refine kX_one rfl ?_
      refine kX_ret (i := .ireturn) (len := 1) rfl (Or.inr rfl) rfl (⟨⟨_, rfl⟩, cAfter_same h⟩)
    · have q : ¬ x < 0 := of_decide_eq_false q
      obtain ⟨j, hj, rfl⟩ := nI_of q
      iterate 4 (refine kX_one rfl ?_)
      refine kX_top (l2) ?_
      repeat refine kX_one rfl ?_
      refine kX_if (fun q2 => ?_) (fun q2 => ?_)
      · have q2 := qle q2 j ln
        have loop : ∀ q : Nat × kS, (q.1 ≤ j ∧ cHi σ q.2 ∧ cJ q.2 n R S C ∧ q.2 181 8 ≠ 0 ∧ ∀ c, c < 181 ∨ 186 ≤ c → q.2 c = σ c) → kX kT L xs (d + 56) 135 40 [(2, .int (nI q.1)), (0, .ref 0), (1, .int (nI j))] [] q.2 (fun r σ' => (∃ x, r = some (.int x)) ∧ cAfter σ σ' R) := by
          refine kX_while (fun q : Nat × kS => [(2, .int (nI q.1)), (0, .ref 0), (1, .int (nI j))]) (fun q => q.2) _ (fun q => j - q.1) ?_
          rintro ⟨i, τ⟩ ⟨i1, i2, i3, i4, i5⟩ ih
          dsimp only at i1 i2 i3 i4 i5 ih ⊢
          repeat refine kX_one rfl ?_
          refine kX_if (fun q3 => ?_) (fun q3 => ?_)
          · iterate 2 (refine kX_one rfl ?_)
            refine kX_cal (mc_intruder L xs d τ n R S C i3 i4) rfl (Or.inr rfl) rfl rfl rfl (fun r1 ω q1 => ?_)
            obtain ⟨rfl, x1, x2, -⟩ := q1
            repeat refine kX_one rfl ?_
            refine kX_ret (i := .ireturn) (len := 1) rfl (Or.inr rfl) rfl (⟨⟨_, rfl⟩, cHi_trans i2 x1, n, S, C, x2⟩)
          · have q3 := qgeF q3 i j
            obtain ⟨s, hs, hs2⟩ := l3 i (by omega)
            iterate 6 (refine kX_one rfl ?_)
            refine kX_ialdV rfl rfl (by decide) (i) (by first | rfl | decide) (by omega) ((congrFun (i5 _ (by decide)) i).trans hs2) ?_
            iterate 6 (refine kX_one rfl ?_)
            refine kX_cal (mc_attackBase L xs (d + 54) τ N' (by omega) (by rw [i5 196 (by decide)]; exact s2)) rfl (Or.inr rfl) rfl rfl rfl (fun r1 σ1 q1 => ?_)
            obtain ⟨rfl, rfl⟩ := q1
            refine kX_cal (mc_follow L xs (d + 52) τ n R S C s (28 * N') i3 i4 hs (by omega) (by rw [i5 197 (by decide)]; exact cV_eq (fun z _ => by rw [i5 8 (by decide)]) (s3 N' (by omega)))) rfl (Or.inr rfl) rfl rfl rfl (fun r1 ω q1 => ?_)
            obtain ⟨rfl, x1, x2, x3, x4⟩ := q1
            iterate 2 (refine kX_one rfl ?_)
            have := ih (i + 1, ω) ⟨q3, cHi_trans i2 x1, x2, fun z => i4 (x3.symm.trans z), fun c hc => (x4 c hc).trans (i5 c hc)⟩ (by simp only; omega)
            dsimp only at this
            rw [← nI_1] at this
            exact kX_lv _ rfl rfl rfl this
        iterate 2 (refine kX_one rfl ?_)
        refine kX_cal (mc_runStart L xs (d + 54) σ n R S C h) rfl (Or.inr rfl) rfl rfl rfl (fun r1 τ q1 => ?_)
        obtain ⟨rfl, h1, h2, h3, h4⟩ := q1
        iterate 2 (refine kX_one rfl ?_)
        exact kX_lv _ rfl rfl rfl (loop (0, τ) ⟨Nat.zero_le _, h1, h2, fun z => absurd (h3.symm.trans z) (by decide), h4⟩)
      · repeat refine kX_one rfl ?_
        refine kX_ret (i := .ireturn) (len := 1) rfl (Or.inr rfl) rfl (⟨⟨_, rfl⟩, cAfter_same h⟩)
