/-! the reference: clear -/
theorem mI_empty {σ : kS} (h1 : σ 232 9 = 0) (h2 : σ 232 10 = nI 200) (h3 : σ 232 13 = 0) (h4 : σ 232 26 = 0) (h5 : σ 232 27 = 0) (h6 : σ 232 30 = 0) (h7 : σ 232 52 = 0) (h8 : σ 232 72 = -6) (hh : ∀ j, j < 1024 → σ 242 j = -1) : mI σ 0 200 0 0 0 [] := by
  have hmv : ∀ t, ¬ mv 0 200 t := fun t q => by unfold mv at q; omega
  have n0 : ∀ t : Nat, ¬ t < 0 := Nat.not_lt_zero
  refine ⟨⟨by omega, by omega, by omega, h1, h2, ⟨fun t q => absurd q (hmv t), fun t q => absurd q (hmv t), fun t u q => absurd q (hmv t)⟩, fun t q => absurd q (hmv t), ⟨fun j hj => Or.inl ⟨hh j hj, fun t _ q => absurd q.1.1 (hmv t)⟩, fun t q => absurd q.1 (hmv t)⟩, fun t q1 q2 => by omega, fun t q => absurd q (n0 t)⟩, ⟨by omega, h3, fun r q => absurd q (n0 r), fun r k q => absurd q (n0 r), fun t q => absurd q (n0 t), fun r e q => absurd q (n0 r)⟩, ⟨by omega, h5, fun s q => absurd q (n0 s)⟩, ⟨h4, Nat.zero_le _, lst_nil _, fun t q => by cases q⟩, ⟨by omega, h6, fun c q => absurd q (n0 c)⟩, Or.inl h7, Or.inl h8⟩
set_option maxRecDepth 100000 in
set_option maxHeartbeats 4000000 in
theorem mr_emptyTable (L : Nat) (xs : Nat → Int32) (d : Nat) (σ : kS) : kXM kT L xs (d + 1) 146 [.ref 232] σ (fun r σ' => r = none ∧ ∃ hd, σ' = va_up σ 242 hd ∧ ∀ j, j < 1024 → hd j = -1) := by
  unfold kXM
  have loop : ∀ q : Nat × (Nat → Int32), (q.1 ≤ 1024 ∧ ∀ j, j < q.1 → q.2 j = -1) → kX kT L xs (d + 1) 146 2 [(1, .int (nI q.1)), (0, .ref 232)] [] (va_up σ 242 q.2) (fun r σ' => r = none ∧ ∃ hd, σ' = va_up σ 242 hd ∧ ∀ j, j < 1024 → hd j = -1) := by
    refine kX_while (fun q : Nat × (Nat → Int32) => [(1, .int (nI q.1)), (0, .ref 232)]) (fun q => va_up σ 242 q.2) _ (fun q => 1024 - q.1) ?_
    rintro ⟨k, H⟩ ⟨i1, i2⟩ ih
    dsimp only at i1 i2 ih ⊢
    iterate 2 (refine kX_one rfl ?_)
    repeat refine kX_one rfl ?_
    refine kX_if (fun q => ?_) (fun q => ?_)
    · have q := qge q k 1024
      repeat refine kX_one rfl ?_
      refine kX_ret (i := .return_) (len := 1) rfl (Or.inr rfl) rfl (⟨rfl, H, rfl, fun j hj => i2 j (by omega)⟩)
    · have q := qgeF q k 1024
      iterate 4 (refine kX_one rfl ?_)
      refine kX_iastN rfl rfl (by decide) (k) (by first | rfl | decide) (by omega) ?_
      iterate 2 (refine kX_one rfl ?_)
      have := ih (k + 1, upd H k (-1)) ⟨q, fun j hj => by
        by_cases e : j = k
        · subst e
          exact pk_us
        · simp only at hj ⊢
          rw [pk_un e]
          exact i2 j (by omega)⟩ (by simp only; omega)
      dsimp only at this
      rw [← nI_1] at this
      refine kX_to _ _ rfl rfl rfl ?_ this
      funext c; unfold  va_up; repeat' split
      all_goals first | rfl | omega | (subst_vars; rfl) | (funext j; unfold upd; repeat' split; all_goals first | rfl | omega | (subst_vars; rfl))
  iterate 2 (refine kX_one rfl ?_)
  refine kX_to _ _ rfl rfl rfl ?_ (loop (0, σ 242) ⟨Nat.zero_le _, fun j hj => absurd hj (Nat.not_lt_zero j)⟩)
  funext c; unfold  va_up; repeat' split
  all_goals first | rfl | omega | (subst_vars; rfl) | (funext j; unfold upd; repeat' split; all_goals first | rfl | omega | (subst_vars; rfl))
set_option maxRecDepth 100000 in
set_option maxHeartbeats 4000000 in
theorem mp_clear (L : Nat) (xs : Nat → Int32) (d : Nat) (σ : kS) (n b R S C : Nat) (kl : List Nat) (h : mI σ n b R S C kl) : kXM kT L xs (d + 2) 226 [.ref 232] σ (fun r σ' => (∃ x, r = some (.int x)) ∧ mAfter σ σ' 0) := by
  have h1 := h.1
  unfold kXM
  repeat refine kX_one rfl ?_
  refine kX_cal (mr_release L xs d σ n b 200 h1 (by omega) h1.2.1) rfl (Or.inr rfl) rfl rfl rfl (fun r1 σ1 q1 => ?_)
  obtain ⟨rfl, hd, q1, -⟩ := q1
  have hl1 : mLow σ σ1 := by
    rw [q1]
    exact mLow_trans (mLow_up σ _ (by decide)) (mLow_up _ _ (by decide))
  have hb1 : σ1 232 10 = nI 200 := by
    rw [q1]
    rfl
  clear q1
  repeat refine kX_one rfl ?_
  refine kX_cal (mr_emptyTable L xs d σ1) rfl (Or.inr rfl) rfl rfl rfl (fun r2 σ2 q2 => ?_)
  obtain ⟨rfl, hd2, rfl, hh⟩ := q2
  repeat refine kX_one rfl ?_
  refine kX_cal (mr_forget L xs d _) rfl (Or.inr rfl) rfl rfl rfl (fun r3 σ3 q3 => ?_)
  obtain ⟨rfl, rfl⟩ := q3
  repeat refine kX_one rfl ?_
  refine kX_ret (i := .ireturn) (len := 1) rfl (Or.inr rfl) rfl ⟨⟨_, rfl⟩, ?_, 0, 200, 0, 0, [], mI_empty rfl hb1 rfl rfl rfl rfl rfl rfl hh⟩
  refine mLow_trans hl1 ?_
  intro c hc
  simp only [va_up]
  repeat rw [if_neg (by omega)]
