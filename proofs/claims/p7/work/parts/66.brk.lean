/-! the reference: isBroken -/
theorem mFr_want (σ : kS) (n : Nat) (f : Nat → Int32) : mFr σ (va_up σ 273 f) n := by
  refine ⟨fun c hc => ?_, fun j hj => rfl, fun u hu => ⟨rfl, rfl, rfl⟩⟩
  simp only [rowC, List.mem_cons, List.not_mem_nil, or_false, not_or] at hc
  simp [va_up, hc]
def mBk (σ : kS) (l : rwT) (c S : Nat) : Prop := (σ 257 c ≠ 0 ∧ ∃ s, s < S ∧ mLs σ l c s) ∨ (σ 257 c = 0 ∧ ¬ ∃ code, code < 4 ^ (wsL σ c S).length ∧ mOkc σ c S (wsL σ c S) code)
theorem mFr_Cl {σ τ : kS} {n R C : Nat} (hF : mFr σ τ n) (hC : mCl σ R C) : mCl τ R C := by
  unfold mCl
  rw [hF.1 258 (by decide), hF.1 259 (by decide), hF.1 257 (by decide), hF.1 244 (by decide), hF.1 260 (by decide), hF.1 261 (by decide), hF.1 262 (by decide), hF.1 263 (by decide)]
  exact ⟨hC.1, (hF.2.1 _ (by decide)).trans hC.2.1, hC.2.2⟩
set_option maxRecDepth 100000 in
set_option maxHeartbeats 4000000 in
theorem mr_isBroken (L : Nat) (xs : Nat → Int32) (d : Nat) (σ : kS) (n b R S C c : Nat) (l : rwT) (h : mTb σ n b) (hR : mRo σ n R) (hS4 : S ≤ 4) (hS : mSv σ n R S) (hC : mCl σ R C) (hc : c < C) (hq : mRq σ (mvG σ n b) l) (hj : mJd σ n b l) : kXM kT L xs (d + 6) 189 [.ref 232, .int (nI c)] σ (fun r σ' => r = some (.int (isB (mBk σ l c S))) ∧ mBd σ σ' n b l (rwM σ l) ∧ ∀ j, j ≠ 49 → j ≠ 50 → j ≠ 46 → σ' 232 j = σ 232 j) := by
  have hC6 := hC.1
  unfold kXM
  repeat refine kX_one rfl ?_
  refine kX_baldN rfl rfl (by decide) (c) (by first | rfl | decide) (by omega) ?_
  repeat refine kX_one rfl ?_
  refine kX_if (fun q => ?_) (fun q => ?_)
  · have q : σ 257 c = 0 := qeq q
    repeat refine kX_one rfl ?_
    refine kX_cal (mr_isApart L xs (d + 3) σ n b R S C c h hR hS4 hS hC hc) rfl (Or.inr rfl) rfl rfl rfl (fun r1 σ2 q1 => ?_)
    obtain ⟨rfl, W, rfl⟩ := q1
    refine kX_ret (i := .ireturn) (len := 1) rfl (Or.inr rfl) (jend_b rfl (isB_01 _)) (⟨?_, ⟨mFr_want σ n W, h, hq, hj, rfl⟩, fun _ _ _ _ => rfl⟩)
    exact congrArg (fun z => some (Value.int z)) (isB_iff ⟨fun z => Or.inr ⟨q, z⟩, fun z => z.elim (fun z => absurd q z.1) (fun z => z.2)⟩)
  · have q : σ 257 c ≠ 0 := qeqF q
    repeat refine kX_one rfl ?_
    refine kX_cal (mr_isLost L xs d σ n b R S C c l h hR hS4 hS hC hc q hq hj) rfl (Or.inr rfl) rfl rfl rfl (fun r1 σ2 q1 => ?_)
    obtain ⟨rfl, f1, f2, f3⟩ := q1
    iterate 1 (refine kX_one rfl ?_)
    refine kX_ret (i := .ireturn) (len := 1) rfl (Or.inr rfl) (jend_b rfl (isB_01 _)) (⟨?_, ⟨mFr_rwF f1, rwF_Tb f1 h, by rw [rwF_mvG f1]; exact f2, f3, ?_⟩, f1.2⟩)
    · exact congrArg (fun z => some (Value.int z)) (isB_iff ⟨fun z => Or.inl ⟨q, z⟩, fun z => z.elim (fun z => z.2) (fun z => absurd z.1 q)⟩)
    · obtain ⟨⟨_, _, _, _, _, _, rfl⟩, -⟩ := f1
      rfl
