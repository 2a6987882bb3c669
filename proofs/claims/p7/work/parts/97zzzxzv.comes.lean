/-! alike: comesToBe, which claim breaks -/
/-- the reference's word for the class's answer -/
def cbR (C : Nat) (a : Int32) (r : Option Value) : Prop := (r = some (.int (-6)) ∧ a = 0) ∨ ∃ c, c < C ∧ r = some (.int (nI c)) ∧ a = nI (1 + c)
set_option maxRecDepth 100000 in
set_option maxHeartbeats 4000000 in
theorem mf_ce_brk (L : Nat) (xs : Nat → Int32) (d : Nat) (σ : kS) (n b R S C : Nat) (kl : List Nat) (l : rwT) (h : mTb σ n b) (hB : mBs σ n R S C kl) (hc : cfg σ n R S (σ 264) (σ 265)) (x y z : Int32) (Q : Option Value → kS → Prop)
    (he : ∀ r τ, cbR C (fsB (fun c => mBt σ (rwM σ l) c S) C 0) r → mFr σ τ n → (∃ b', mTb τ n b') → Q r τ) :
    ∀ q : Nat × kS, (q.1 ≤ C ∧ mFr σ q.2 n ∧ mTb q.2 n b ∧ mRq q.2 (mvG q.2 n b) l ∧ mJd q.2 n b l ∧ rwM q.2 l = rwM σ l ∧ ∀ c, c < q.1 → ¬ mBt σ (rwM σ l) c S) → kX kT L xs (d + 7) 213 201 [(4, .int (nI q.1)), (0, .ref 232), (1, .int x), (2, .int y), (3, .int z)] [] q.2 Q := by
  have hC6 := hB.2.2.2.1
  have hS4 := hB.2.1.1
  refine kX_while (fun q : Nat × kS => [(4, .int (nI q.1)), (0, .ref 232), (1, .int x), (2, .int y), (3, .int z)]) (fun q => q.2) _ (fun q => C - q.1) ?_
  rintro ⟨c, τ⟩ ⟨i1, i2, i3, i4, i5, i6, i7⟩ ih
  dsimp only at i1 i2 i3 i4 i5 i6 i7 ih ⊢
  have hB2 := mBs_sf h (mSf_fr i2) hB
  iterate 3 (refine kX_one rfl ?_)
  refine kX_top (hB2.2.2.2.2.1) ?_
  repeat refine kX_one rfl ?_
  refine kX_if (fun q => ?_) (fun q => ?_)
  · have q := qge q c C
    have hz : cbR C (fsB (fun c => mBt σ (rwM σ l) c S) C 0) (some (.int (-6))) := Or.inl ⟨rfl, fsB_no C 0 (fun c' _ h2 => i7 c' (by omega))⟩
    repeat refine kX_one rfl ?_
    refine kX_ret (i := .ireturn) (len := 1) rfl (Or.inr rfl) rfl (he _ τ hz i2 ⟨b, i3⟩)
  · have q := qgeF q c C
    have hc2 : cfg τ n R S (τ 264) (τ 265) := by
      rw [i2.1 264 (by decide), i2.1 265 (by decide)]
      exact cfg_sf h hB.1 (mSf_fr i2) hc
    have hbk := mBk_tr (l := l) h i2 hB.1 hB.2.2.2 q hS4 (cfg_Sv h hB.1 hB.2.1 hc)
    rw [i6] at hbk
    iterate 2 (refine kX_one rfl ?_)
    refine kX_cal (mr_isBroken L xs d τ n b R S C c l i3 hB2.1 hS4 (cfg_Sv i3 hB2.1 hB2.2.1 hc2) hB2.2.2.2 q i4 i5) rfl (Or.inr rfl) rfl rfl rfl (fun r1 σ2 q1 => ?_)
    obtain ⟨rfl, k1, -⟩ := q1
    repeat refine kX_one rfl ?_
    refine kX_if (fun q3 => ?_) (fun q3 => ?_)
    · have q3 : ¬ mBk τ l c S := fun w => isB_ne.mpr w (qeq q3)
      iterate 2 (refine kX_one rfl ?_)
      have := ih (c + 1, σ2) ⟨q, mFr_trans i2 k1.1, k1.2.1, k1.2.2.1, k1.2.2.2.1, k1.2.2.2.2.trans i6, fun c' hc' => by
        by_cases e : c' = c
        · subst e
          exact fun w => q3 (hbk.mpr w)
        · exact i7 c' (by simp only at hc'; omega)⟩ (by simp only; omega)
      dsimp only at this
      rw [← nI_1] at this
      exact kX_lv _ rfl rfl rfl this
    · have q3 : mBk τ l c S := isB_ne.mp (qeqF q3)
      have hz : cbR C (fsB (fun c => mBt σ (rwM σ l) c S) C 0) (some (.int (nI c))) := Or.inr ⟨c, q, rfl, fsB_at (P := fun c => mBt σ (rwM σ l) c S) (j := c) (hbk.mp q3) C 0 (Nat.zero_le _) (by omega) (fun c' _ h2 => i7 c' h2)⟩
      repeat refine kX_one rfl ?_
      refine kX_ret (i := .ireturn) (len := 1) rfl (Or.inr rfl) rfl (he _ σ2 hz (mFr_trans i2 k1.1) ⟨b, k1.2.1⟩)
