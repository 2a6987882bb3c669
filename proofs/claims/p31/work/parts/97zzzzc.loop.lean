/-! the law's loop, both sides alike -/
theorem lw_less : ∀ L, L < 5 → ∀ k, k < 5 → jcmp .gt (nI k) (Int32.ofNat L - 5) = true := by decide
theorem lw_less5 {L : Nat} (h : 5 ≤ L) : (Int32.ofNat L - 5 : Int32) = nI (L - 5) := by
  have e := nI_add (L - 5) 5
  rw [Nat.sub_add_cancel h] at e
  have e2 : (Int32.ofNat L : Int32) = nI (L - 5) + 5 := e.symm
  rw [e2, Int32.add_sub_cancel]
set_option maxRecDepth 100000 in
theorem lw_loop (L : Nat) (xs : Nat → Int32) (hL : L ≤ 2560) (a : Nat × kS) (h : a.1 ≤ L ∧ bJ (2401 * a.1) a.2) : kX kT L xs 201 0 18 [(3, .int (nI a.1)), (2, .ref 232), (1, .ref 0), (0, .retAddr 0)] [] a.2 (fun r _ => r = some (.int 1)) := by
  refine kX_while (fun q : Nat × kS => [(3, .int (nI q.1)), (2, .ref 232), (1, .ref 0), (0, .retAddr 0)]) (fun q => q.2) (fun q => q.1 ≤ L ∧ bJ (2401 * q.1) q.2) (fun q => L - q.1) ?_ a h
  rintro ⟨k, σ⟩ ⟨i1, i2⟩ ih
  dsimp only at i1 i2 ih ⊢
  iterate 6 (refine kX_one rfl ?_)
  repeat refine kX_one rfl ?_
  refine kX_if (fun q => ?_) (fun q => ?_)
  · repeat refine kX_one rfl ?_
    refine kX_ret (i := .ireturn) (len := 1) rfl (Or.inr rfl) rfl (rfl)
  · have hk : k + 5 ≤ L := by
      by_cases h5 : 5 ≤ L
      · have := qgtF q k (L - 5) rfl (lw_less5 h5) (by omega) (by omega)
        omega
      · have := lw_less L (by omega) k (by omega)
        have q2 : jcmp .gt (nI k) (Int32.ofNat L - 5) = false := q
        rw [q2] at this
        cases this
    have kk : ∀ τ, bJ (2401 * k + 2401) τ → kX kT L xs 201 0 1040 [(3, .int (nI k)), (2, .ref 232), (1, .ref 0), (0, .retAddr 0)] [] τ (fun r _ => r = some (.int 1)) := by
      intro τ hτ
      iterate 2 (refine kX_one rfl ?_)
      have := ih (k + 5, τ) ⟨hk, bJ_up (by show 2401 * k + 2401 ≤ 2401 * (k + 5); omega) hτ⟩ (by simp only; omega)
      dsimp only at this
      rw [← nI_add k 5] at this
      exact kX_lv _ rfl rfl rfl this
    iterate 2 (refine kX_one rfl ?_)
    refine kX_xald rfl k rfl (by omega) (by omega) ?_
    iterate 1 (refine kX_one rfl ?_)
    obtain ⟨m, m1, m2⟩ := pk_andE (xs k) (m := (Int8.ofInt 31).toInt32) 5 (by decide)
    iterate 1 (refine kX_one rfl ?_)
    refine kX_top m2 ?_
    match m, m1 with
    | 0, _ =>
      iterate 1 (refine kX_one rfl ?_)
      exact lw_agent L xs σ k _ _ hL hk (by omega) i2 kk
    | 1, _ =>
      iterate 1 (refine kX_one rfl ?_)
      exact lw_atom L xs σ k _ _ hL hk (by omega) i2 kk
    | 2, _ =>
      iterate 1 (refine kX_one rfl ?_)
      exact lw_term L xs σ k _ _ hL hk (by omega) i2 kk
    | 3, _ =>
      iterate 1 (refine kX_one rfl ?_)
      exact lw_of L xs σ k _ _ hL hk (by omega) i2 kk
    | 4, _ =>
      iterate 1 (refine kX_one rfl ?_)
      exact lw_about L xs σ k _ _ hL hk (by omega) i2 kk
    | 5, _ =>
      iterate 1 (refine kX_one rfl ?_)
      exact lw_role L xs σ k _ _ hL hk (by omega) i2 kk
    | 6, _ =>
      iterate 1 (refine kX_one rfl ?_)
      exact lw_variable L xs σ k _ _ hL hk (by omega) i2 kk
    | 7, _ =>
      iterate 1 (refine kX_one rfl ?_)
      exact lw_event L xs σ k _ _ hL hk (by omega) i2 kk
    | 8, _ =>
      iterate 1 (refine kX_one rfl ?_)
      exact lw_know L xs σ k _ _ hL hk (by omega) i2 kk
    | 9, _ =>
      iterate 1 (refine kX_one rfl ?_)
      exact lw_session L xs σ k _ _ hL hk (by omega) i2 kk
    | 10, _ =>
      iterate 1 (refine kX_one rfl ?_)
      exact lw_secret L xs σ k _ _ hL hk (by omega) i2 kk
    | 11, _ =>
      iterate 1 (refine kX_one rfl ?_)
      exact lw_agree L xs σ k _ _ hL hk (by omega) i2 kk
    | 12, _ =>
      iterate 1 (refine kX_one rfl ?_)
      exact lw_join L xs σ k _ _ hL hk (by omega) i2 kk
    | 13, _ =>
      iterate 1 (refine kX_one rfl ?_)
      exact lw_begin L xs σ k _ _ hL hk (by omega) i2 kk
    | 14, _ =>
      iterate 1 (refine kX_one rfl ?_)
      exact lw_end L xs σ k _ _ hL hk (by omega) i2 kk
    | 15, _ =>
      iterate 1 (refine kX_one rfl ?_)
      exact lw_send L xs σ k _ _ hL hk (by omega) i2 kk
    | 16, _ =>
      iterate 1 (refine kX_one rfl ?_)
      exact lw_receive L xs σ k _ _ hL hk (by omega) i2 kk
    | 17, _ =>
      iterate 1 (refine kX_one rfl ?_)
      exact lw_makes L xs σ k _ _ hL hk (by omega) i2 kk
    | 18, _ =>
      iterate 1 (refine kX_one rfl ?_)
      exact lw_row L xs σ k _ _ hL hk (by omega) i2 kk
    | 19, _ =>
      iterate 1 (refine kX_one rfl ?_)
      exact lw_stands L xs σ k _ _ hL hk (by omega) i2 kk
    | 20, _ =>
      iterate 1 (refine kX_one rfl ?_)
      exact lw_done L xs σ k _ _ hL hk (by omega) i2 kk
    | 21, _ =>
      iterate 1 (refine kX_one rfl ?_)
      exact lw_broken L xs σ k _ _ hL hk (by omega) i2 kk
    | 22, _ =>
      iterate 1 (refine kX_one rfl ?_)
      exact lw_undo L xs σ k _ _ hL hk (by omega) i2 kk
    | 23, _ =>
      iterate 1 (refine kX_one rfl ?_)
      exact lw_search L xs σ k _ _ hL hk (by omega) i2 kk
    | 24, _ =>
      iterate 1 (refine kX_one rfl ?_)
      exact lw_found L xs σ k _ _ hL hk (by omega) i2 kk
    | 25, _ =>
      iterate 1 (refine kX_one rfl ?_)
      exact lw_attack L xs σ k _ _ hL hk (by omega) i2 kk
    | 26, _ =>
      iterate 1 (refine kX_one rfl ?_)
      exact lw_play L xs σ k _ _ hL hk (by omega) i2 kk
    | 27, _ =>
      iterate 1 (refine kX_one rfl ?_)
      exact lw_told L xs σ k _ _ hL hk (by omega) i2 kk
    | 28, _ =>
      iterate 1 (refine kX_one rfl ?_)
      exact lw_ofRole L xs σ k _ _ hL hk (by omega) i2 kk
    | 29, _ =>
      iterate 1 (refine kX_one rfl ?_)
      exact lw_clear L xs σ k _ _ hL hk (by omega) i2 kk
    | 30, _ =>
      iterate 1 (refine kX_one rfl ?_)
      exact kk σ (bJ_up (by omega) i2)
    | 31, _ =>
      iterate 1 (refine kX_one rfl ?_)
      exact kk σ (bJ_up (by omega) i2)
    | m + 32, h32 => exact absurd h32 (by omega)
theorem kAnsP : kAns4 2560 := by
  intro L xs hL h0 h
  exact lw_loop L xs hL (0, kof h0) ⟨Nat.zero_le _, bJ_0 h⟩
