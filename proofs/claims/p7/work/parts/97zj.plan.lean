/-! the class: plan -/
theorem min_ok {t n : Nat} (h : t < n) (hn : n ≤ 200) : jmmv 3 (nI t) (nI n - 1) = nI t := by
  obtain ⟨m, rfl⟩ : ∃ m, n = m + 1 := ⟨n - 1, by omega⟩
  rw [nI_pred]
  unfold jmmv
  rw [if_neg (by decide), if_neg (by decide), if_neg]
  rw [Int32.lt_iff_toInt_lt, nI_toInt (by omega), nI_toInt (by omega)]
  omega
/-- an open TERM's parts -/
theorem cT_open {σ : kS} {n u : Nat} (h : cT σ n) (hu : u < n) (hg : σ 8 u = 0) (hk : σ 2 u ≠ 3) : ∃ x, x < u ∧ σ 3 u = nI x ∧ ((∃ y, y < u ∧ σ 4 u = nI y) ∨ (σ 4 u = -1 ∧ (σ 2 u = nI 7 ∨ σ 2 u = nI 9))) := by
  have hn := h.1
  obtain ⟨⟨k, k1, k2⟩, -, -, -, -, a6, a7, a8, -⟩ := h.2.2.2 u hu
  have h3 : k ≠ 3 := fun e => hk (by rw [k2, e]; rfl)
  have hf : fN (σ 2 u) = k := by rw [k2]; exact fN_nI (by omega)
  rw [hf] at a7 a8
  by_cases e : k ≤ 3
  · exfalso
    obtain ⟨f1, f2⟩ := a7 e
    have : σ 8 u = 1 := by
      rw [a6 (by rw [k2]; exact nI_ne h3), f1, f2]
      exact ⟨cG_m1 σ u (by omega), cG_m1 σ u (by omega)⟩
    rw [hg] at this
    exact absurd this (by decide)
  · exact a8 (by omega) hg
set_option maxRecDepth 100000 in
set_option maxHeartbeats 4000000 in
theorem mc_markParts (L : Nat) (xs : Nat → Int32) (d : Nat) (σ : kS) (n r k t : Nat) (h : cT σ n) (hr : r < 4) (hk : k < 6) (ht : t < n) (hte : σ (28 + 35 * r + 5 * k) 1 = nI t) : kXM kT L xs (d + 3) 42 [.ref (28 + 35 * r + 5 * k), .ref 1, .ref 22] σ (fun q σ' => q = none ∧ ∃ LV, σ' = va_up σ 22 LV) := by
  have hn := h.1
  have hEv := kT_ev hr hk
  generalize ha : 28 + 35 * r + 5 * k = a at *
  unfold kXM
  have loop : ∀ q : Nat × (Nat → Int32), q.1 ≤ n → kX kT L xs (d + 3) 42 19 [(3, .int (nI q.1 - 1)), (0, .ref a), (1, .ref 1), (2, .ref 22)] [] (va_up σ 22 q.2) (fun q σ' => q = none ∧ ∃ LV, σ' = va_up σ 22 LV) := by
    refine kX_while (fun q : Nat × (Nat → Int32) => [(3, .int (nI q.1 - 1)), (0, .ref a), (1, .ref 1), (2, .ref 22)]) (fun q => va_up σ 22 q.2) (fun q => q.1 ≤ n) (fun q => q.1) ?_
    rintro ⟨K, LV⟩ i1 ih
    dsimp only at i1 ih ⊢
    rcases Nat.eq_zero_or_pos K with rfl | hK
    · iterate 2 (refine kX_one rfl ?_)
      refine kX_ret (i := .return_) (len := 1) rfl (Or.inr rfl) rfl (⟨rfl, LV, rfl⟩)
    · obtain ⟨u, rfl⟩ : ∃ u, K = u + 1 := ⟨K - 1, by omega⟩
      rw [nI_pred]
      have k84 : ∀ LV', kX kT L xs (d + 3) 42 84 [(3, .int (nI u)), (0, .ref a), (1, .ref 1), (2, .ref 22)] [] (va_up σ 22 LV') (fun q σ' => q = none ∧ ∃ LV, σ' = va_up σ 22 LV) := by
        intro LV'
        iterate 2 (refine kX_one rfl ?_)
        have := ih (u, LV') (by simp only; omega) (by simp only; omega)
        dsimp only at this
        rw [← nI_dec] at this
        exact kX_lv _ rfl rfl rfl this
      have k35 : ∀ LV', kX kT L xs (d + 3) 42 35 [(3, .int (nI u)), (0, .ref a), (1, .ref 1), (2, .ref 22)] [] (va_up σ 22 LV') (fun q σ' => q = none ∧ ∃ LV, σ' = va_up σ 22 LV) := by
        intro LV'
        iterate 2 (refine kX_one rfl ?_)
        refine kX_ialdN rfl rfl (by decide) (u) (by first | rfl | decide) (by omega) ?_
        iterate 1 (refine kX_one rfl ?_)
        repeat refine kX_one rfl ?_
        refine kX_if (fun q => ?_) (fun q => ?_)
        · exact k84 LV'
        · iterate 2 (refine kX_one rfl ?_)
          refine kX_cal (mc_isOpen L xs d (va_up σ 22 LV') n (nI u) hn h.2.1) rfl (Or.inr rfl) rfl rfl rfl (fun r1 σ1 q1 => ?_)
          obtain ⟨rfl, rfl⟩ := q1
          repeat refine kX_one rfl ?_
          refine kX_if (fun q2 => ?_) (fun q2 => ?_)
          · obtain ⟨u', u1, u2, u3, u4⟩ := isB_ne.mp (qne q2)
            obtain rfl : u = u' := nI_inj u2
            obtain ⟨x, x1, x2, x3⟩ := cT_open h u1 u3 u4
            iterate 4 (refine kX_one rfl ?_)
            refine kX_ialdV rfl rfl (by decide) (u) (by first | rfl | decide) (by omega) (x2) ?_
            iterate 1 (refine kX_one rfl ?_)
            refine kX_iastN rfl rfl (by decide) (x) (by first | rfl | decide) (by omega) ?_
            refine kX_st (va_up σ 22 (upd LV' x 0)) ?_ ?_
            · funext c; unfold  va_up; repeat' split
              all_goals first | rfl | omega | (subst_vars; rfl) | (funext j; unfold upd; repeat' split; all_goals first | rfl | omega | (subst_vars; rfl))
            iterate 4 (refine kX_one rfl ?_)
            refine kX_ialdN rfl rfl (by decide) (u) (by first | rfl | decide) (by omega) ?_
            refine kX_cal (mc_has L xs (d + 1) (va_up σ 22 (upd LV' x 0)) n _ hn h.2.1) rfl (Or.inr rfl) rfl rfl rfl (fun r1 σ1 q1 => ?_)
            obtain ⟨rfl, rfl⟩ := q1
            repeat refine kX_one rfl ?_
            refine kX_if (fun q3 => ?_) (fun q3 => ?_)
            · exact k84 _
            · obtain ⟨y, y1, y2⟩ := isB_ne.mp (qeqF q3)
              have y2 : σ 4 u = nI y := y2
              iterate 4 (refine kX_one rfl ?_)
              refine kX_ialdV rfl rfl (by decide) (u) (by first | rfl | decide) (by omega) (y2) ?_
              iterate 1 (refine kX_one rfl ?_)
              refine kX_iastN rfl rfl (by decide) (y) (by first | rfl | decide) (by omega) ?_
              refine kX_st (va_up σ 22 (upd (upd LV' x 0) y 0)) ?_ (k84 _)
              funext c; unfold  va_up; repeat' split
              all_goals first | rfl | omega | (subst_vars; rfl) | (funext j; unfold upd; repeat' split; all_goals first | rfl | omega | (subst_vars; rfl))
          · iterate 1 (refine kX_one rfl ?_)
            exact k84 LV'
      iterate 1 (refine kX_one rfl ?_)
      repeat refine kX_one rfl ?_
      refine kX_ifF (decide_eq_false (nI_pos (by omega))) ?_
      iterate 2 (refine kX_one rfl ?_)
      refine kX_getN rfl rfl (hEv) rfl ?_
      refine kX_top (y := nI t) (by rw [up_ne (by omega)]; exact hte) ?_
      repeat refine kX_one rfl ?_
      refine kX_if (fun q => ?_) (fun q => ?_)
      · exact k35 LV
      · iterate 3 (refine kX_one rfl ?_)
        refine kX_iastN rfl rfl (by decide) (u) (by first | rfl | decide) (by omega) ?_
        refine kX_st (va_up σ 22 (upd LV u 0)) ?_ (k35 _)
        funext c; unfold  va_up; repeat' split
        all_goals first | rfl | omega | (subst_vars; rfl) | (funext j; unfold upd; repeat' split; all_goals first | rfl | omega | (subst_vars; rfl))
  iterate 2 (refine kX_one rfl ?_)
  refine kX_cal (kX_fill (T := kT) L xs (d + 1) (-1) σ (a := 22) (n := 200) (g0 := fun _ => 0) rfl (by decide)) rfl (Or.inr rfl) rfl rfl rfl (fun r1 σ1 q1 => ?_)
  obtain ⟨rfl, rfl⟩ := q1
  iterate 1 (refine kX_one rfl ?_)
  refine kX_getN rfl rfl (hEv) rfl ?_
  refine kX_top (y := nI t) (by rw [up_ne (by omega)]; exact hte) ?_
  iterate 2 (refine kX_one rfl ?_)
  refine kX_top (h.2.1) ?_
  iterate 3 (refine kX_one rfl ?_)
  refine kX_top (y := nI t) (min_ok ht hn) ?_
  iterate 1 (refine kX_one rfl ?_)
  have := loop (t + 1, fun j => if j < 200 then -1 else σ 22 j) ht
  dsimp only at this
  rw [nI_pred] at this
  exact kX_lv _ rfl rfl rfl this
set_option maxRecDepth 100000 in
set_option maxHeartbeats 4000000 in
theorem mc_levelOf (L : Nat) (xs : Nat → Int32) (d : Nat) (σ : kS) (n r k u m : Nat) (h : cT σ n) (hr : r < 4) (hk : k < 6) (hu : u < n) (hm : m ≤ 6) (hbc : σ (28 + 35 * r + 5 * k) 4 = nI m) : kXM kT L xs (d + 3) 43 [.ref (28 + 35 * r + 5 * k), .ref 1, .ref 22, .int (nI u)] σ (fun q σ' => (∃ x, q = some (.int x)) ∧ σ = σ') := by
  have hn := h.1
  have hEv := kT_ev hr hk
  have hE1 := kT_e1 (i := 1) hr hk (Or.inl rfl)
  generalize ha : 28 + 35 * r + 5 * k = a at *
  unfold kXM
  have loop : ∀ j : Nat, j ≤ m → kX kT L xs (d + 3) 43 48 [(4, .int (nI j)), (0, .ref a), (1, .ref 1), (2, .ref 22), (3, .int (nI u))] [] σ (fun q σ' => (∃ x, q = some (.int x)) ∧ σ = σ') := by
    refine kX_while (fun j : Nat => [(4, .int (nI j)), (0, .ref a), (1, .ref 1), (2, .ref 22), (3, .int (nI u))]) (fun _ => σ) (fun j => j ≤ m) (fun j => m - j) ?_
    intro j hj ih
    iterate 2 (refine kX_one rfl ?_)
    refine kX_getN rfl rfl (hEv) rfl ?_
    refine kX_top (hbc) ?_
    repeat refine kX_one rfl ?_
    refine kX_if (fun q => ?_) (fun q => ?_)
    · repeat refine kX_one rfl ?_
      refine kX_ret (i := .ireturn) (len := 1) rfl (Or.inr rfl) rfl (⟨⟨_, rfl⟩, rfl⟩)
    · have q := qgeF q j m
      have k88 : kX kT L xs (d + 3) 43 88 [(4, .int (nI j)), (0, .ref a), (1, .ref 1), (2, .ref 22), (3, .int (nI u))] [] σ (fun q σ' => (∃ x, q = some (.int x)) ∧ σ = σ') := by
        iterate 2 (refine kX_one rfl ?_)
        have := ih (j + 1) q (by omega)
        rw [← nI_1] at this
        exact kX_lv _ rfl rfl rfl this
      iterate 3 (refine kX_one rfl ?_)
      refine kX_ialdN rfl rfl (by decide) (u) (by first | rfl | decide) (by omega) ?_
      iterate 1 (refine kX_one rfl ?_)
      repeat refine kX_one rfl ?_
      refine kX_if (fun q2 => ?_) (fun q2 => ?_)
      · exact k88
      · iterate 1 (refine kX_one rfl ?_)
        refine kX_getN rfl rfl (hEv) rfl ?_
        iterate 1 (refine kX_one rfl ?_)
        refine kX_ialdN rfl (hE1) (by decide) (j) (by first | rfl | decide) (by omega) ?_
        iterate 3 (refine kX_one rfl ?_)
        refine kX_ialdN rfl rfl (by decide) (u) (by first | rfl | decide) (by omega) ?_
        repeat refine kX_one rfl ?_
        refine kX_if (fun q3 => ?_) (fun q3 => ?_)
        · exact k88
        · repeat refine kX_one rfl ?_
          refine kX_ret (i := .ireturn) (len := 1) rfl (Or.inr rfl) rfl (⟨⟨_, rfl⟩, rfl⟩)
  iterate 2 (refine kX_one rfl ?_)
  refine kX_cal (mc_isOpen L xs d σ n (nI u) hn h.2.1) rfl (Or.inr rfl) rfl rfl rfl (fun r1 σ1 q1 => ?_)
  obtain ⟨rfl, rfl⟩ := q1
  repeat refine kX_one rfl ?_
  refine kX_if (fun q => ?_) (fun q => ?_)
  · iterate 2 (refine kX_one rfl ?_)
    exact kX_lv _ rfl rfl rfl (loop 0 (Nat.zero_le _))
  · obtain ⟨u', u1, u2, u3, u4⟩ := isB_ne.mp (qeqF q)
    obtain rfl : u = u' := nI_inj u2
    obtain ⟨x, x1, x2, x3⟩ := cT_open h u1 u3 u4
    iterate 3 (refine kX_one rfl ?_)
    refine kX_ialdN rfl rfl (by decide) (u) (by first | rfl | decide) (by omega) ?_
    iterate 5 (refine kX_one rfl ?_)
    refine kX_ialdV rfl rfl (by decide) (u) (by first | rfl | decide) (by omega) (x2) ?_
    refine kX_ialdN rfl rfl (by decide) (x) (by first | rfl | decide) (by omega) ?_
    iterate 2 (refine kX_one rfl ?_)
    refine kX_cal (mc_has L xs (d + 1) σ n _ hn h.2.1) rfl (Or.inr rfl) rfl rfl rfl (fun r1 σ1 q1 => ?_)
    obtain ⟨rfl, rfl⟩ := q1
    repeat refine kX_one rfl ?_
    refine kX_if (fun q2 => ?_) (fun q2 => ?_)
    · repeat refine kX_one rfl ?_
      refine kX_ret (i := .ireturn) (len := 1) rfl (Or.inr rfl) rfl (⟨⟨_, rfl⟩, rfl⟩)
    · obtain ⟨y, y1, y2⟩ := isB_ne.mp (qeqF q2)
      have y2 : σ 4 u = nI y := y2
      iterate 2 (refine kX_one rfl ?_)
      refine kX_ialdN rfl rfl (by decide) (y) (y2) (by omega) ?_
      repeat refine kX_one rfl ?_
      refine kX_ret (i := .ireturn) (len := 1) rfl (Or.inr rfl) rfl (⟨⟨_, rfl⟩, rfl⟩)
