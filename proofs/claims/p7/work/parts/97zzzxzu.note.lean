/-! alike: noteAttack -/
def naP (σ : kS) (n R S N : Nat) (r : Option Value) (σ' : kS) : Prop := r = none ∧ ∃ AS AT l0, σ' = naS σ AS AT (nI l0.length) ∧ mAk σ' n R S ∧ pthR σ (N - 1) l0 ∧ pthB σ S N (N - 1) l0 ∧ l0.length ≤ 24 ∧ ∀ p z, l0.reverse[p]? = some z → AS p = nI z.1 ∧ AT p = nI z.2
set_option maxRecDepth 100000 in
set_option maxHeartbeats 4000000 in
theorem mf_noteAttack (L : Nat) (xs : Nat → Int32) (d : Nat) (σ : kS) (n b R S N : Nat) (h : mTb σ n b) (hR : mRo σ n R) (hS4 : S ≤ 4) (hS : mSs σ n R S N) (hN : 0 < N) : kXM kT L xs (d + 1) 219 [.ref 232] σ (naP σ n R S N) := by
  have hN6 := hS.1
  obtain ⟨l0, hp, hP⟩ := pth_ex hS (N - 1) (by omega)
  have h24 := pth_24 hR hS4 hS hN hP
  have hst : σ 232 69 = nI (N - 1 + 1) := by rw [hS.2.1, show N - 1 + 1 = N by omega]
  unfold kXM
  have loop2 : ∀ q : List (Nat × Nat) × Nat × (Nat → Int32) × (Nat → Int32), ((∃ l1, l0 = l1 ++ q.1) ∧ q.2.1 < 600 ∧ pthR σ q.2.1 q.1 ∧ ∀ p z, q.1.length ≤ p → l0.reverse[p]? = some z → q.2.2.1 p = nI z.1 ∧ q.2.2.2 p = nI z.2) → kX kT L xs (d + 1) 219 38 [(2, .int (nI q.2.1)), (1, .int (nI q.1.length)), (0, .ref 232)] [] (naS σ q.2.2.1 q.2.2.2 (nI l0.length)) (naP σ n R S N) := by
    refine kX_while (fun q : List (Nat × Nat) × Nat × (Nat → Int32) × (Nat → Int32) => [(2, .int (nI q.2.1)), (1, .int (nI q.1.length)), (0, .ref 232)]) (fun q => naS σ q.2.2.1 q.2.2.2 (nI l0.length)) _ (fun q => q.1.length) ?_
    rintro ⟨l, t, AS, AT⟩ ⟨⟨l1, i1⟩, i2, i3, i4⟩ ih
    dsimp only at i1 i2 i3 i4 ih ⊢
    rcases l with _ | ⟨⟨m, t'⟩, l⟩
    · have i3 : t = 0 := i3
      subst i3
      iterate 2 (refine kX_one rfl ?_)
      refine kX_ret (i := .return_) (len := 1) rfl (Or.inr rfl) rfl (⟨rfl, AS, AT, l0, rfl, naS_Ak h hR hS4 hS hN hP h24 (fun p z hz => i4 p z (Nat.zero_le _) hz), hp, hP, h24, fun p z hz => i4 p z (Nat.zero_le _) hz⟩)
    · obtain ⟨rfl, j0, j1, j, j2, j3, j4⟩ := i3
      have hll : l.length < 24 := by
        have := congrArg List.length i1
        simp at this
        omega
      have hat : l0.reverse[l.length]? = some (m, t') := by
        rw [i1, List.reverse_append, List.reverse_cons, List.append_assoc, List.getElem?_append_right (by simp)]
        simp
      iterate 1 (refine kX_one rfl ?_)
      repeat refine kX_one rfl ?_
      refine kX_ifF (decide_eq_false (nI_nle (by omega) (by omega))) ?_
      iterate 1 (refine kX_one rfl ?_)
      refine kX_lv [(2, .int (nI t')), (1, .int (nI l.length)), (0, .ref 232)] rfl rfl ?_ ?_
      · rw [show nI l.length = nI (l.length + 1) + Int32.ofInt (-1) from (pk_m1 _).symm]
        rfl
      iterate 6 (refine kX_one rfl ?_)
      refine kX_ialdV rfl rfl (by decide) (t') (by first | rfl | decide) (i2) (j1) ?_
      refine kX_iastN rfl rfl (by decide) (l.length) (by first | rfl | decide) (by omega) ?_
      iterate 4 (refine kX_one rfl ?_)
      refine kX_iastN rfl rfl (by decide) (l.length) (by first | rfl | decide) (by omega) ?_
      iterate 3 (refine kX_one rfl ?_)
      refine kX_ialdV rfl rfl (by decide) (t') (by first | rfl | decide) (i2) (j3) ?_
      iterate 2 (refine kX_one rfl ?_)
      have := ih (l, j, upd AS l.length (nI m), upd AT l.length (nI t')) ⟨⟨l1 ++ [(m, t')], by rw [i1]; simp⟩, by simp only; omega, j4, fun p z hpl hz => by
        simp only at hpl ⊢
        by_cases e : p = l.length
        · subst e
          rw [hat] at hz
          obtain rfl := Option.some.inj hz
          rw [pk_us, pk_us]
          exact ⟨rfl, rfl⟩
        · rw [pk_un e, pk_un e]
          exact i4 p z (by rw [List.length_cons]; omega) hz⟩ (by simp)
      dsimp only at this
      refine kX_to _ _ rfl rfl rfl ?_ this
      funext c; unfold naS va_up; repeat' split
      all_goals first | rfl | omega | (subst_vars; rfl) | (funext j; unfold upd; repeat' split; all_goals first | rfl | omega | (subst_vars; rfl))
  have loop1 : ∀ q : List (Nat × Nat) × Nat × Nat, (q.2.1 < 600 ∧ pthR σ q.2.1 q.1 ∧ q.2.2 + q.1.length = l0.length) → kX kT L xs (d + 1) 219 9 [(2, .int (nI q.2.1)), (1, .int (nI q.2.2)), (0, .ref 232)] [] σ (naP σ n R S N) := by
    refine kX_while (fun q : List (Nat × Nat) × Nat × Nat => [(2, .int (nI q.2.1)), (1, .int (nI q.2.2)), (0, .ref 232)]) (fun q => σ) _ (fun q => q.1.length) ?_
    rintro ⟨l, t, c⟩ ⟨i2, i3, i4⟩ ih
    dsimp only at i2 i3 i4 ih ⊢
    rcases l with _ | ⟨⟨m, t'⟩, l⟩
    · have i3 : t = 0 := i3
      subst i3
      have i4 : c = l0.length := i4
      subst i4
      iterate 7 (refine kX_one rfl ?_)
      refine kX_top (hst) ?_
      iterate 3 (refine kX_one rfl ?_)
      have := loop2 (l0, N - 1, σ 288, σ 289) ⟨⟨[], rfl⟩, by simp only; omega, hp, fun p z hpl hz => by
        have := (List.getElem?_eq_some_iff.mp hz).1
        simp at this hpl
        omega⟩
      dsimp only at this
      rw [← nI_pred] at this
      refine kX_to _ _ rfl rfl rfl ?_ this
      funext c; unfold naS va_up; repeat' split
      all_goals first | rfl | omega | (subst_vars; rfl) | (funext j; unfold upd; repeat' split; all_goals first | rfl | omega | (subst_vars; rfl))
    · obtain ⟨rfl, j0, j1, j, j2, j3, j4⟩ := i3
      iterate 1 (refine kX_one rfl ?_)
      repeat refine kX_one rfl ?_
      refine kX_ifF (decide_eq_false (nI_nle (by omega) (by omega))) ?_
      iterate 4 (refine kX_one rfl ?_)
      refine kX_ialdV rfl rfl (by decide) (t') (by first | rfl | decide) (i2) (j3) ?_
      iterate 2 (refine kX_one rfl ?_)
      have := ih (l, j, c + 1) ⟨by simp only; omega, j4, by
        simp only
        rw [List.length_cons] at i4
        omega⟩ (by simp)
      dsimp only at this
      rw [← nI_1] at this
      exact kX_lv _ rfl rfl rfl this
  iterate 4 (refine kX_one rfl ?_)
  refine kX_top (hst) ?_
  iterate 3 (refine kX_one rfl ?_)
  have := loop1 (l0, N - 1, 0) ⟨by simp only; omega, hp, by simp⟩
  dsimp only at this
  rw [← nI_pred] at this
  exact kX_lv _ rfl rfl rfl this
