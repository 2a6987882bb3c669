/-! the reference: know -/
theorem mI_fg {σ : kS} {n b R S C : Nat} {kl : List Nat} (h1 : mTb σ n b) (h2 : mRo σ n R) (h3 : mSe σ n R S) (h4 : mKn σ n kl) (h5 : mCl σ R C) (hr : σ 232 52 = 0) : mI (va_up σ 232 (fgO (σ 232))) n b R S C kl := ⟨h1, h2, h3, h4, h5, Or.inl hr, Or.inl rfl⟩
set_option maxRecDepth 100000 in
set_option maxHeartbeats 4000000 in
theorem mp_know (L : Nat) (xs : Nat → Int32) (d : Nat) (σ : kS) (n b R S C : Nat) (kl : List Nat) (x : Int32) (h : mI σ n b R S C kl) : kXM kT L xs (d + 2) 167 [.ref 232, .int x] σ (fun r σ' => (∃ x, r = some (.int x)) ∧ mAfter σ σ' R) := by
  have h0 := h
  obtain ⟨h1, h2, h3, h4, h5, h6, h7⟩ := h
  have hn := h1.1
  have hk20 := h4.2.1
  unfold kXM
  repeat refine kX_one rfl ?_
  refine kX_cal (mr_isTerm L xs d σ n x h1.2.2.2.1 (by omega)) rfl (Or.inr rfl) rfl rfl rfl (fun r1 σ1 q1 => ?_)
  obtain ⟨rfl, rfl⟩ := q1
  repeat refine kX_one rfl ?_
  refine kX_if (fun q => ?_) (fun q => ?_)
  · obtain ⟨t, ht, rfl⟩ := isB_ne.mp (qne q)
    rcases h6 with h6 | ⟨h6, -⟩
    · iterate 2 (refine kX_one rfl ?_)
      refine kX_top (h6) ?_
      repeat refine kX_one rfl ?_
      refine kX_if (fun q => ?_) (fun q => ?_)
      · have hl20 : kl.length ≠ 20 := fun e => qne q (by rw [h4.1, e]; rfl)
        have hgr : σ 237 t = bI (tgd (σ 233) (σ 234) (σ 235) t) := h1.2.2.2.2.2.2.1 t (Or.inl ht)
        have loop : ∀ k, k ≤ kl.length → kX kT L xs (d + 2) 167 49 [(3, .int (nI k)), (2, .int (isB (tgd (σ 233) (σ 234) (σ 235) t = false ∨ ∃ i, i < k ∧ kl[i]? = some t))), (0, .ref 232), (1, .int (nI t))] [] σ (fun r σ' => (∃ x, r = some (.int x)) ∧ mAfter σ σ' R) := by
          refine kX_while (fun k : Nat => [(3, .int (nI k)), (2, .int (isB (tgd (σ 233) (σ 234) (σ 235) t = false ∨ ∃ i, i < k ∧ kl[i]? = some t))), (0, .ref 232), (1, .int (nI t))]) (fun _ => σ) _ (fun k => kl.length - k) ?_
          intro k hk ih
          iterate 3 (refine kX_one rfl ?_)
          refine kX_top (h4.1) ?_
          repeat refine kX_one rfl ?_
          refine kX_if (fun q => ?_) (fun q => ?_)
          · have q := qge q k kl.length
            repeat refine kX_one rfl ?_
            refine kX_if (fun q2 => ?_) (fun q2 => ?_)
            · have hg : tgd (σ 233) (σ 234) (σ 235) t = true := by
                have : ¬ (tgd (σ 233) (σ 234) (σ 235) t = false ∨ ∃ i, i < k ∧ kl[i]? = some t) := fun z => isB_ne.mpr z (qeq q2)
                cases hg : tgd (σ 233) (σ 234) (σ 235) t
                · exact absurd (Or.inl hg) this
                · rfl
              repeat refine kX_one rfl ?_
              refine kX_iastN rfl rfl (by decide) (kl.length) (h4.1) (by omega) ?_
              repeat refine kX_one rfl ?_
              have e1 : σ 232 26 + 1 = nI (kl.length + 1) := by rw [h4.1]; exact (nI_succ _).symm
              refine kX_st (va_up (va_up σ 254 (upd (σ 254) kl.length (nI t))) 232 (upd (σ 232) 26 (nI (kl.length + 1)))) ?_ ?_
              · rw [← e1]
                rfl
              refine kX_cal (mr_forget L xs d _) rfl (Or.inr rfl) rfl rfl rfl (fun r1 σ1 q1 => ?_)
              obtain ⟨rfl, rfl⟩ := q1
              repeat refine kX_one rfl ?_
              refine kX_ret (i := .ireturn) (len := 1) rfl (Or.inr rfl) rfl (⟨⟨_, rfl⟩, mLow_trans (mLow_trans (mLow_up σ _ (by decide)) (mLow_up _ _ (by decide))) (mLow_up _ _ (by decide)), n, b, S, C, kl ++ [t], mI_fg (σ := va_up (va_up σ 254 (upd (σ 254) kl.length (nI t))) 232 (upd (σ 232) 26 (nI (kl.length + 1)))) h1 h2 h3 ⟨?_, ?_, lst_push h4.2.2.1 t, fun u hu => ?_⟩ h5 h6⟩)
              · rw [List.length_append]; rfl
              · rw [List.length_append]; show _ + 1 ≤ 20; omega
              · rcases List.mem_append.mp hu with hu | hu
                · exact h4.2.2.2 u hu
                · rw [List.mem_singleton] at hu
                  subst hu
                  exact ⟨ht, hg⟩
            · repeat refine kX_one rfl ?_
              refine kX_ret (i := .ireturn) (len := 1) rfl (Or.inr rfl) rfl (⟨⟨_, rfl⟩, mAfter_same h0⟩)
          · have q := qgeF q k kl.length
            have hgo : ∀ v : Int32, v = isB (tgd (σ 233) (σ 234) (σ 235) t = false ∨ ∃ i, i < k + 1 ∧ kl[i]? = some t) → kX kT L xs (d + 2) 167 76 [(3, .int (nI k)), (2, .int (isB (tgd (σ 233) (σ 234) (σ 235) t = false ∨ ∃ i, i < k ∧ kl[i]? = some t))), (0, .ref 232), (1, .int (nI t))] [.int v] σ (fun r σ' => (∃ x, r = some (.int x)) ∧ mAfter σ σ' R) := by
              intro v hv
              subst hv
              iterate 3 (refine kX_one rfl ?_)
              have := ih (k + 1) q (by omega)
              rw [← nI_1] at this
              exact kX_lv _ rfl rfl rfl this
            repeat refine kX_one rfl ?_
            refine kX_if (fun q2 => ?_) (fun q2 => ?_)
            · have q2 := isB_ne.mp (qne q2)
              iterate 2 (refine kX_one rfl ?_)
              exact hgo _ (isB_T (q2.elim Or.inl (fun ⟨i, hi, hi2⟩ => Or.inr ⟨i, by omega, hi2⟩))).symm
            · have q2 : ¬ (tgd (σ 233) (σ 234) (σ 235) t = false ∨ ∃ i, i < k ∧ kl[i]? = some t) := fun z => isB_ne.mpr z (qneF q2)
              repeat refine kX_one rfl ?_
              refine kX_ialdN rfl rfl (by decide) (k) (by first | rfl | decide) (by omega) ?_
              iterate 1 (refine kX_one rfl ?_)
              have hk2 : σ 254 k = nI kl[k] := h4.2.2.1 k q
              have hlt := (h4.2.2.2 kl[k] (List.getElem_mem q)).1
              repeat refine kX_one rfl ?_
              refine kX_if (fun q3 => ?_) (fun q3 => ?_)
              · have q3 : σ 254 k ≠ nI t := qne q3
                iterate 1 (refine kX_one rfl ?_)
                refine hgo _ (isB_F ?_).symm
                rintro (z | ⟨i, hi, hi2⟩)
                · exact q2 (Or.inl z)
                · by_cases e : i = k
                  · subst e
                    rw [List.getElem?_eq_getElem q] at hi2
                    rw [hk2, Option.some.inj hi2] at q3
                    exact q3 rfl
                  · exact q2 (Or.inr ⟨i, by omega, hi2⟩)
              · have q3 : σ 254 k = nI t := qneF q3
                iterate 2 (refine kX_one rfl ?_)
                refine hgo _ (isB_T (Or.inr ⟨k, by omega, ?_⟩)).symm
                rw [List.getElem?_eq_getElem q]
                exact congrArg some (nI_inj (hk2.symm.trans q3))
        have start := loop 0 (Nat.zero_le _)
        repeat refine kX_one rfl ?_
        refine kX_baldV rfl rfl (by decide) (t) (by first | rfl | decide) (by omega) (hgr) ?_
        cases hg : tgd (σ 233) (σ 234) (σ 235) t
        · rw [isB_T (Or.inl hg)] at start
          iterate 6 (refine kX_one rfl ?_)
          exact kX_lv _ rfl rfl rfl start
        · rw [isB_F (by
            rintro (z | ⟨i, z, -⟩)
            · rw [hg] at z; cases z
            · omega)] at start
          iterate 5 (refine kX_one rfl ?_)
          exact kX_lv _ rfl rfl rfl start
      · repeat refine kX_one rfl ?_
        refine kX_ret (i := .ireturn) (len := 1) rfl (Or.inr rfl) rfl (⟨⟨_, rfl⟩, mAfter_same h0⟩)
    · iterate 2 (refine kX_one rfl ?_)
      refine kX_top (h6) ?_
      repeat refine kX_one rfl ?_
      refine kX_ret (i := .ireturn) (len := 1) rfl (Or.inr rfl) rfl (⟨⟨_, rfl⟩, mAfter_same h0⟩)
  · repeat refine kX_one rfl ?_
    refine kX_ret (i := .ireturn) (len := 1) rfl (Or.inr rfl) rfl (⟨⟨_, rfl⟩, mAfter_same h0⟩)
