/-! the reference: row -/
set_option maxRecDepth 100000 in
set_option maxHeartbeats 4000000 in
theorem mp_row (L : Nat) (xs : Nat → Int32) (d : Nat) (σ : kS) (n b R S C : Nat) (kl : List Nat) (x w : Int32) (h : mI σ n b R S C kl) : kXM kT L xs (d + 8) 204 [.ref 232, .int x, .int w] σ (fun r σ' => (∃ x, r = some (.int x)) ∧ mAfter σ σ' R) := by
  have h0 := h
  obtain ⟨h1, h2, h3, h4, h5, h6, h7⟩ := h
  have hn := h1.1
  unfold kXM
  repeat refine kX_one rfl ?_
  refine kX_cal (mr_in L xs (d + 7) σ _ _ _) rfl (Or.inr rfl) rfl rfl rfl (fun r1 σ1 q1 => ?_)
  obtain ⟨rfl, rfl⟩ := q1
  rw [isB_dec]
  repeat refine kX_one rfl ?_
  refine kX_if (fun q => ?_) (fun q => ?_)
  · obtain ⟨k, -, k2, rfl⟩ := in_R (lo := 0) (hi := 4) (by omega) (by omega) (isB_ne.mp (qne q)).1 (isB_ne.mp (qne q)).2
    rcases h6 with h6 | ⟨h6, ds, g1, g2, g3⟩
    · iterate 2 (refine kX_one rfl ?_)
      refine kX_top (h6) ?_
      repeat refine kX_one rfl ?_
      refine kX_ret (i := .ireturn) (len := 1) rfl (Or.inr rfl) rfl (⟨⟨_, rfl⟩, mAfter_same h0⟩)
    · iterate 2 (refine kX_one rfl ?_)
      refine kX_top (h6) ?_
      repeat refine kX_one rfl ?_
      refine kX_cal (mr_row L xs d σ n b R S C kl ds h0 h6 g1 g2 g3) rfl (Or.inr rfl) rfl rfl rfl (fun r1 σ1 q1 => ?_)
      obtain ⟨rfl, f1, f2, b', l, f3, f4, f5, f6, f7⟩ := q1
      have hI1 := (mI_there h0 h6 g1 g2 f1 f2 f3 f4 f5 f6 f7).1
      have hA1 : mAfter σ σ1 R := ⟨mLow_fr f1, n, b', S, C, kl, hI1⟩
      have hlr : l.length ≤ 1000 := by
        rw [← f5.2.2.2.2]
        exact cnt_le _ _
      repeat refine kX_one rfl ?_
      refine kX_cal (mr_in L xs (d + 7) σ1 _ _ _) rfl (Or.inr rfl) rfl rfl rfl (fun r1 σ1 q1 => ?_)
      obtain ⟨rfl, rfl⟩ := q1
      rw [isB_dec]
      repeat refine kX_one rfl ?_
      refine kX_if (fun q => ?_) (fun q => ?_)
      · obtain ⟨i, hi, rfl⟩ : isN x l.length := (in_N (by omega)).mp (by rw [← f5.1]; exact isB_ne.mp (qne q))
        obtain ⟨e1, -, -⟩ := f5.2.1 i hi
        have hv : mvG σ1 n b' (l[i]).1 := f5.2.2.1 _ ⟨l[i], List.getElem_mem hi, rfl⟩
        have hz := rwM_sz h1 h2 h4 g1 f4 f7 ⟨l[i], List.getElem_mem hi, rfl⟩ hv.1
        generalize (l[i]).1 = t at e1 hv hz
        have ht : t < 1000 := by
          have := hv.1
          unfold mv at this
          omega
        iterate 3 (refine kX_one rfl ?_)
        refine kX_ialdV rfl rfl (by decide) (i) (by first | rfl | decide) (by omega) (e1) ?_
        have : k = 0 ∨ k = 1 ∨ k = 2 ∨ k = 3 ∨ k = 4 := by omega
        rcases this with rfl | rfl | rfl | rfl | rfl
        · repeat refine kX_one rfl ?_
          refine kX_ialdN rfl rfl (by decide) (t) (by first | rfl | decide) (ht) ?_
          refine kX_ret (i := .ireturn) (len := 1) rfl (Or.inr rfl) rfl (⟨⟨_, rfl⟩, hA1⟩)
        · repeat refine kX_one rfl ?_
          refine kX_ialdN rfl rfl (by decide) (t) (by first | rfl | decide) (ht) ?_
          refine kX_ret (i := .ireturn) (len := 1) rfl (Or.inr rfl) rfl (⟨⟨_, rfl⟩, hA1⟩)
        · repeat refine kX_one rfl ?_
          refine kX_ialdN rfl rfl (by decide) (i) (by first | rfl | decide) (by omega) ?_
          refine kX_ret (i := .ireturn) (len := 1) rfl (Or.inr rfl) rfl (⟨⟨_, rfl⟩, hA1⟩)
        · repeat refine kX_one rfl ?_
          refine kX_ialdN rfl rfl (by decide) (i) (by first | rfl | decide) (by omega) ?_
          refine kX_ret (i := .ireturn) (len := 1) rfl (Or.inr rfl) rfl (⟨⟨_, rfl⟩, hA1⟩)
        · repeat refine kX_one rfl ?_
          refine kX_if (fun q => ?_) (fun q => ?_)
          · have q := qge q t 200
            have hvt : 200 ≤ t ∧ t < b' := by
              have := hv.1
              unfold mv at this
              omega
            iterate 3 (refine kX_one rfl ?_)
            refine kX_ialdV rfl rfl (by decide) (t) (by first | rfl | decide) (ht) (f4.2.2.2.2.2.1.2.1 t hv.1) ?_
            repeat refine kX_one rfl ?_
            refine kX_if (fun q2 => ?_) (fun q2 => ?_)
            · have h24 : tsz (σ1 233) (σ1 234) (σ1 235) t ≤ 24 := by
                exact qle q2 _ 24
              repeat refine kX_one rfl ?_
              refine kX_cal (mr_lasting L xs (d + 3) σ1 n b' R S C kl t hI1 f3 hvt.1 hvt.2 h24) rfl (Or.inr rfl) rfl rfl rfl (fun r1 σ2 q1 => ?_)
              obtain ⟨⟨y, rfl⟩, hA2⟩ := q1
              refine kX_ret (i := .ireturn) (len := 1) rfl (Or.inr rfl) rfl (⟨⟨_, rfl⟩, mLow_trans hA1.1 hA2.1, hA2.2⟩)
            · repeat refine kX_one rfl ?_
              refine kX_ret (i := .ireturn) (len := 1) rfl (Or.inr rfl) rfl (⟨⟨_, rfl⟩, hA1⟩)
          · repeat refine kX_one rfl ?_
            refine kX_ret (i := .ireturn) (len := 1) rfl (Or.inr rfl) rfl (⟨⟨_, rfl⟩, hA1⟩)
      · repeat refine kX_one rfl ?_
        refine kX_ret (i := .ireturn) (len := 1) rfl (Or.inr rfl) rfl (⟨⟨_, rfl⟩, hA1⟩)
  · repeat refine kX_one rfl ?_
    refine kX_ret (i := .ireturn) (len := 1) rfl (Or.inr rfl) rfl (⟨⟨_, rfl⟩, mAfter_same h0⟩)
