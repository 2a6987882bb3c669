/-! alike: about -/
theorem ite_iff {P Q : Prop} [Decidable P] [Decidable Q] {α : Type} {a b : α} (h : P ↔ Q) : (if P then a else b) = if Q then a else b := by
  by_cases p : P
  · rw [if_pos p, if_pos (h.mp p)]
  · rw [if_neg p, if_neg (fun q => p (h.mpr q))]
theorem m1_lt {σ : kS} {n b t : Nat} (h : mTb σ n b) (ht : t < n) : (σ 234 t < 0 ↔ σ 234 t = -1) ∧ (σ 235 t < 0 ↔ σ 235 t = -1) := by
  have hp : ∀ x : Nat, x < 100000 → (nI x < 0 ↔ nI x = -1) := fun x hx => ⟨fun q => absurd q (nI_pos (by omega)), fun q => absurd q (nI_m1 (by omega))⟩
  have hm : (-1 : Int32) < 0 ↔ (-1 : Int32) = -1 := by decide
  have hn := h.1
  rcases (mTb_num h t ht).2 with ⟨k, -, -, q1, q2⟩ | ⟨k, x, y, -, -, q1, q2, q3, q4, -⟩ | ⟨k, x, -, -, q1, q2, q3, -⟩
  · rw [q1, q2]
    exact ⟨hm, hm⟩
  · rw [q1, q2]
    exact ⟨hp x (by omega), hp y (by omega)⟩
  · rw [q1, q2]
    exact ⟨hp x (by omega), hm⟩
set_option maxRecDepth 100000 in
set_option maxHeartbeats 4000000 in
theorem mt_about (L : Nat) (xs : Nat → Int32) (d : Nat) (σ : kS) (n b : Nat) (x y : Int32) (h1 : mTb σ n b) : kXM kT L xs (d + 2) 160 [.ref 232, .int x, .int y] σ (fun r σ' => r = some (.int (abA σ n x y)) ∧ σ = σ') := by
  have hn := h1.1
  unfold kXM
  repeat refine kX_one rfl ?_
  refine kX_cal (mr_isTerm L xs d σ n x h1.2.2.2.1 (by omega)) rfl (Or.inr rfl) rfl rfl rfl (fun r1 σ1 q1 => ?_)
  obtain ⟨rfl, rfl⟩ := q1
  repeat refine kX_one rfl ?_
  refine kX_if (fun q => ?_) (fun q => ?_)
  · obtain ⟨t, ht, rfl⟩ := isB_ne.mp (qne q)
    have key : ∀ w, w = isB (σ 233 t = nI 3) → kX kT L xs (d + 2) 160 26 [(3, .int w), (0, .ref 232), (1, .int (nI t)), (2, .int y)] [] σ (fun r σ' => r = some (.int (abA σ n (nI t) y)) ∧ σ = σ') := by
      intro w hw
      by_cases hy : ∃ k, k < 9 ∧ y = nI k
      · obtain ⟨k, hk, rfl⟩ := hy
        rw [abA_t ht hn hk]
        have : k = 0 ∨ k = 1 ∨ k = 2 ∨ k = 3 ∨ k = 4 ∨ k = 5 ∨ k = 6 ∨ k = 7 ∨ k = 8 := by omega
        rcases this with rfl | rfl | rfl | rfl | rfl | rfl | rfl | rfl | rfl
        · repeat refine kX_one rfl ?_
          refine kX_ialdN rfl rfl (by decide) (t) (by first | rfl | decide) (by omega) ?_
          repeat refine kX_one rfl ?_
          refine kX_ret (i := .ireturn) (len := 1) rfl (Or.inr rfl) rfl (⟨rfl, rfl⟩)
        · repeat refine kX_one rfl ?_
          refine kX_ialdN rfl rfl (by decide) (t) (by first | rfl | decide) (by omega) ?_
          repeat refine kX_one rfl ?_
          refine kX_if (fun q => ?_) (fun q => ?_)
          · have q : ¬ σ 234 t < 0 := fun z => absurd (of_decide_eq_true q) (Int32.not_le.mpr z)
            repeat refine kX_one rfl ?_
            refine kX_ialdN rfl rfl (by decide) (t) (by first | rfl | decide) (by omega) ?_
            repeat refine kX_one rfl ?_
            refine kX_ret (i := .ireturn) (len := 1) rfl (Or.inr rfl) rfl (⟨congrArg (fun z => some (Value.int z)) (show _ = (if σ 234 t < 0 then (-6 : Int32) else σ 234 t) by rw [if_neg q]), rfl⟩)
          · have q : σ 234 t < 0 := Int32.not_le.mp (of_decide_eq_false q)
            repeat refine kX_one rfl ?_
            refine kX_ret (i := .ireturn) (len := 1) rfl (Or.inr rfl) rfl (⟨congrArg (fun z => some (Value.int z)) (show _ = (if σ 234 t < 0 then (-6 : Int32) else σ 234 t) by rw [if_pos q]; rfl), rfl⟩)
        · repeat refine kX_one rfl ?_
          refine kX_ialdN rfl rfl (by decide) (t) (by first | rfl | decide) (by omega) ?_
          repeat refine kX_one rfl ?_
          refine kX_if (fun q => ?_) (fun q => ?_)
          · have q : ¬ σ 235 t < 0 := fun z => absurd (of_decide_eq_true q) (Int32.not_le.mpr z)
            repeat refine kX_one rfl ?_
            refine kX_ialdN rfl rfl (by decide) (t) (by first | rfl | decide) (by omega) ?_
            repeat refine kX_one rfl ?_
            refine kX_ret (i := .ireturn) (len := 1) rfl (Or.inr rfl) rfl (⟨congrArg (fun z => some (Value.int z)) (show _ = (if σ 235 t < 0 then (-6 : Int32) else σ 235 t) by rw [if_neg q]), rfl⟩)
          · have q : σ 235 t < 0 := Int32.not_le.mp (of_decide_eq_false q)
            repeat refine kX_one rfl ?_
            refine kX_ret (i := .ireturn) (len := 1) rfl (Or.inr rfl) rfl (⟨congrArg (fun z => some (Value.int z)) (show _ = (if σ 235 t < 0 then (-6 : Int32) else σ 235 t) by rw [if_pos q]; rfl), rfl⟩)
        · repeat refine kX_one rfl ?_
          refine kX_ialdN rfl rfl (by decide) (t) (by first | rfl | decide) (by omega) ?_
          repeat refine kX_one rfl ?_
          refine kX_ret (i := .ireturn) (len := 1) rfl (Or.inr rfl) rfl (⟨rfl, rfl⟩)
        · repeat refine kX_one rfl ?_
          refine kX_baldN rfl rfl (by decide) (t) (by first | rfl | decide) (by omega) ?_
          repeat refine kX_one rfl ?_
          refine kX_if (fun q => ?_) (fun q => ?_)
          · repeat refine kX_one rfl ?_
            refine kX_ret (i := .ireturn) (len := 1) rfl (Or.inr rfl) rfl (⟨rF (fun z => z (qeq q)), rfl⟩)
          · repeat refine kX_one rfl ?_
            refine kX_ret (i := .ireturn) (len := 1) rfl (Or.inr rfl) rfl (⟨rT (qeqF q), rfl⟩)
        · repeat refine kX_one rfl ?_
          refine kX_ialdN rfl rfl (by decide) (t) (by first | rfl | decide) (by omega) ?_
          repeat refine kX_one rfl ?_
          refine kX_if (fun q => ?_) (fun q => ?_)
          · have q0 : σ 233 t = nI 0 := qeq q
            repeat refine kX_one rfl ?_
            refine kX_baldN rfl rfl (by decide) (t) (by first | rfl | decide) (by omega) ?_
            repeat refine kX_one rfl ?_
            refine kX_if (fun q => ?_) (fun q => ?_)
            · repeat refine kX_one rfl ?_
              refine kX_ret (i := .ireturn) (len := 1) rfl (Or.inr rfl) rfl (⟨congrArg (fun z => some (Value.int z)) (show _ = cit (σ 233 t = nI 0) (isB (σ 238 t ≠ 0)) (-6) by rw [cit_T q0, isB_F (fun z => z (qeq q))]; rfl), rfl⟩)
            · repeat refine kX_one rfl ?_
              refine kX_ret (i := .ireturn) (len := 1) rfl (Or.inr rfl) rfl (⟨congrArg (fun z => some (Value.int z)) (show _ = cit (σ 233 t = nI 0) (isB (σ 238 t ≠ 0)) (-6) by rw [cit_T q0, isB_T (qeqF q)]; rfl), rfl⟩)
          · have q0 : ¬ σ 233 t = nI 0 := qeqF q
            repeat refine kX_one rfl ?_
            refine kX_ret (i := .ireturn) (len := 1) rfl (Or.inr rfl) rfl (⟨congrArg (fun z => some (Value.int z)) (show _ = cit (σ 233 t = nI 0) (isB (σ 238 t ≠ 0)) (-6) by rw [cit_F q0]; rfl), rfl⟩)
        · repeat refine kX_one rfl ?_
          refine kX_if (fun q => ?_) (fun q => ?_)
          · have q : ¬ σ 233 t = nI 3 := fun z => isB_ne.mpr z (hw.symm.trans (qeq q))
            repeat refine kX_one rfl ?_
            refine kX_ret (i := .ireturn) (len := 1) rfl (Or.inr rfl) rfl (⟨congrArg (fun z => some (Value.int z)) (show _ = cit (σ 233 t = nI 3) (σ 239 t) (-6) by rw [cit_F q]; rfl), rfl⟩)
          · have q : σ 233 t = nI 3 := isB_ne.mp (fun z => qeqF q (hw.trans z))
            repeat refine kX_one rfl ?_
            refine kX_ialdN rfl rfl (by decide) (t) (by first | rfl | decide) (by omega) ?_
            repeat refine kX_one rfl ?_
            refine kX_ret (i := .ireturn) (len := 1) rfl (Or.inr rfl) rfl (⟨congrArg (fun z => some (Value.int z)) (show _ = cit (σ 233 t = nI 3) (σ 239 t) (-6) by rw [cit_T q]), rfl⟩)
        · repeat refine kX_one rfl ?_
          refine kX_if (fun q => ?_) (fun q => ?_)
          · have q : ¬ σ 233 t = nI 3 := fun z => isB_ne.mpr z (hw.symm.trans (qeq q))
            repeat refine kX_one rfl ?_
            refine kX_ret (i := .ireturn) (len := 1) rfl (Or.inr rfl) rfl (⟨congrArg (fun z => some (Value.int z)) (show _ = cit (σ 233 t = nI 3) (σ 240 t) (-6) by rw [cit_F q]; rfl), rfl⟩)
          · have q : σ 233 t = nI 3 := isB_ne.mp (fun z => qeqF q (hw.trans z))
            repeat refine kX_one rfl ?_
            refine kX_ialdN rfl rfl (by decide) (t) (by first | rfl | decide) (by omega) ?_
            repeat refine kX_one rfl ?_
            refine kX_ret (i := .ireturn) (len := 1) rfl (Or.inr rfl) rfl (⟨congrArg (fun z => some (Value.int z)) (show _ = cit (σ 233 t = nI 3) (σ 240 t) (-6) by rw [cit_T q]), rfl⟩)
        · repeat refine kX_one rfl ?_
          refine kX_if (fun q => ?_) (fun q => ?_)
          · have q : ¬ σ 233 t = nI 3 := fun z => isB_ne.mpr z (hw.symm.trans (qeq q))
            repeat refine kX_one rfl ?_
            refine kX_ret (i := .ireturn) (len := 1) rfl (Or.inr rfl) rfl (⟨congrArg (fun z => some (Value.int z)) (show _ = cit (σ 233 t = nI 3) (σ 241 t) (-6) by rw [cit_F q]; rfl), rfl⟩)
          · have q : σ 233 t = nI 3 := isB_ne.mp (fun z => qeqF q (hw.trans z))
            repeat refine kX_one rfl ?_
            refine kX_ialdN rfl rfl (by decide) (t) (by first | rfl | decide) (by omega) ?_
            repeat refine kX_one rfl ?_
            refine kX_ret (i := .ireturn) (len := 1) rfl (Or.inr rfl) rfl (⟨congrArg (fun z => some (Value.int z)) (show _ = cit (σ 233 t = nI 3) (σ 241 t) (-6) by rw [cit_T q]), rfl⟩)
      · iterate 1 (refine kX_one rfl ?_)
        refine kX_tabO rfl (kp_out 9 (fun k hk e => hy ⟨k, hk, e⟩) (by decide)) rfl ?_
        repeat refine kX_one rfl ?_
        refine kX_ret (i := .ireturn) (len := 1) rfl (Or.inr rfl) rfl (⟨congrArg (fun z => some (Value.int z)) (show _ = abA σ n (nI t) y by unfold abA; rw [cit_T ⟨t, ht, rfl⟩, cit_F (P := isN y 9) hy]; rfl), rfl⟩)
    repeat refine kX_one rfl ?_
    refine kX_ialdN rfl rfl (by decide) (t) (by first | rfl | decide) (by omega) ?_
    repeat refine kX_one rfl ?_
    refine kX_if (fun q => ?_) (fun q => ?_)
    · iterate 2 (refine kX_one rfl ?_)
      exact key 0 (isB_F (show ¬ σ 233 t = nI 3 from qne q)).symm
    · iterate 3 (refine kX_one rfl ?_)
      exact key 1 (isB_T (show σ 233 t = nI 3 from qneF q)).symm
  · have q : ¬ isN x n := fun z => isB_ne.mpr z (qneF q)
    repeat refine kX_one rfl ?_
    refine kX_ret (i := .ireturn) (len := 1) rfl (Or.inr rfl) rfl (⟨congrArg (fun z => some (Value.int z)) (show _ = abA σ n x y by unfold abA; rw [cit_F q]; rfl), rfl⟩)
set_option maxRecDepth 100000 in
set_option maxHeartbeats 4000000 in
theorem kt_about (L : Nat) (xs : Nat → Int32) (d : Nat) (σ : kS) (n b : Nat) (x w : Int32) (h1 : mTb σ n b) (hT : cT σ n) (hA : aT σ n) : kXM kT L xs (d + 2) 113 [.ref 0, .int x, .int w] σ (fun r σ' => r = some (.int (abA σ n x w)) ∧ σ = σ') := by
  have hn := hT.1
  unfold kXM
  iterate 3 (refine kX_one rfl ?_)
  refine kX_cal (mc_has L xs d σ n x hn hT.2.1) rfl (Or.inr rfl) rfl rfl rfl (fun r1 σ1 q1 => ?_)
  obtain ⟨rfl, rfl⟩ := q1
  repeat refine kX_one rfl ?_
  refine kX_if (fun q => ?_) (fun q => ?_)
  · obtain ⟨t, ht, rfl⟩ := isB_ne.mp (qne q)
    obtain ⟨e1, e2, e3, e4, e5, e6, e7⟩ := hA.1 t ht
    have em := m1_lt h1 ht
    repeat refine kX_one rfl ?_
    refine kX_if (fun q2 => ?_) (fun q2 => ?_)
    · have q2 : w < 0 := of_decide_eq_true q2
      have q2 : ¬ isN w 9 := fun ⟨j, j1, j2⟩ => nI_pos (show j < 2147483648 by omega) (by rw [← j2]; exact q2)
      repeat refine kX_one rfl ?_
      refine kX_ret (i := .ireturn) (len := 1) rfl (Or.inr rfl) rfl (⟨congrArg (fun z => some (Value.int z)) (show _ = abA σ n (nI t) w by unfold abA; rw [cit_T ⟨t, ht, rfl⟩, cit_F q2]; rfl), rfl⟩)
    · have q2 : ¬ w < 0 := of_decide_eq_false q2
      obtain ⟨k, hk, rfl⟩ := nI_of q2
      repeat refine kX_one rfl ?_
      refine kX_if (fun q3 => ?_) (fun q3 => ?_)
      · have q3 := qle q3 k 8
        rw [abA_t ht hn (by omega)]
        iterate 4 (refine kX_one rfl ?_)
        refine kX_ialdN rfl rfl (by decide) (t) (by first | rfl | decide) (by omega) ?_
        have : k = 0 ∨ k = 1 ∨ k = 2 ∨ k = 3 ∨ k = 4 ∨ k = 5 ∨ k = 6 ∨ k = 7 ∨ k = 8 := by omega
        rcases this with rfl | rfl | rfl | rfl | rfl | rfl | rfl | rfl | rfl
        · repeat refine kX_one rfl ?_
          refine kX_ret (i := .ireturn) (len := 1) rfl (Or.inr rfl) rfl (⟨congrArg (fun z => some (Value.int z)) e1, rfl⟩)
        · repeat refine kX_one rfl ?_
          refine kX_ialdN rfl rfl (by decide) (t) (by first | rfl | decide) (by omega) ?_
          refine kX_cal (mc_orNone L xs d σ _) rfl (Or.inr rfl) rfl rfl rfl (fun r1 σ1 q1 => ?_)
          obtain ⟨rfl, rfl⟩ := q1
          refine kX_ret (i := .ireturn) (len := 1) rfl (Or.inr rfl) rfl (⟨congrArg (fun z => some (Value.int z)) (show _ = (if σ 234 t < 0 then (-6 : Int32) else σ 234 t) by rw [e2]; exact ite_iff em.1.symm), rfl⟩)
        · repeat refine kX_one rfl ?_
          refine kX_ialdN rfl rfl (by decide) (t) (by first | rfl | decide) (by omega) ?_
          refine kX_cal (mc_orNone L xs d σ _) rfl (Or.inr rfl) rfl rfl rfl (fun r1 σ1 q1 => ?_)
          obtain ⟨rfl, rfl⟩ := q1
          refine kX_ret (i := .ireturn) (len := 1) rfl (Or.inr rfl) rfl (⟨congrArg (fun z => some (Value.int z)) (show _ = (if σ 235 t < 0 then (-6 : Int32) else σ 235 t) by rw [e3]; exact ite_iff em.2.symm), rfl⟩)
        · repeat refine kX_one rfl ?_
          refine kX_ialdN rfl rfl (by decide) (t) (by first | rfl | decide) (by omega) ?_
          refine kX_ret (i := .ireturn) (len := 1) rfl (Or.inr rfl) rfl (⟨congrArg (fun z => some (Value.int z)) e4, rfl⟩)
        · repeat refine kX_one rfl ?_
          refine kX_baldN rfl rfl (by decide) (t) (by first | rfl | decide) (by omega) ?_
          refine kX_cal (mc_asNumber L xs d σ _) rfl (Or.inr rfl) rfl rfl rfl (fun r1 σ1 q1 => ?_)
          obtain ⟨rfl, rfl⟩ := q1
          refine kX_ret (i := .ireturn) (len := 1) rfl (Or.inr rfl) rfl (⟨congrArg (fun z => some (Value.int z)) (show _ = isB (σ 237 t ≠ 0) by rw [e5]), rfl⟩)
        · repeat refine kX_one rfl ?_
          refine kX_if (fun q4 => ?_) (fun q4 => ?_)
          · have q4 : ¬ σ 233 t = nI 0 := fun z => qne q4 (e1.trans z)
            repeat refine kX_one rfl ?_
            refine kX_ret (i := .ireturn) (len := 1) rfl (Or.inr rfl) rfl (⟨congrArg (fun z => some (Value.int z)) (show _ = cit (σ 233 t = nI 0) (isB (σ 238 t ≠ 0)) (-6) by rw [cit_F q4]; rfl), rfl⟩)
          · have q4 : σ 233 t = nI 0 := e1.symm.trans (qneF q4)
            repeat refine kX_one rfl ?_
            refine kX_baldN rfl rfl (by decide) (t) (by first | rfl | decide) (by omega) ?_
            refine kX_cal (mc_asNumber L xs d σ _) rfl (Or.inr rfl) rfl rfl rfl (fun r1 σ1 q1 => ?_)
            obtain ⟨rfl, rfl⟩ := q1
            repeat refine kX_one rfl ?_
            refine kX_ret (i := .ireturn) (len := 1) rfl (Or.inr rfl) rfl (⟨congrArg (fun z => some (Value.int z)) (show _ = cit (σ 233 t = nI 0) (isB (σ 238 t ≠ 0)) (-6) by rw [cit_T q4, e6 q4]), rfl⟩)
        · repeat refine kX_one rfl ?_
          refine kX_if (fun q4 => ?_) (fun q4 => ?_)
          · have q4 : ¬ σ 233 t = nI 3 := fun z => qne q4 (e1.trans z)
            repeat refine kX_one rfl ?_
            refine kX_ret (i := .ireturn) (len := 1) rfl (Or.inr rfl) rfl (⟨congrArg (fun z => some (Value.int z)) (show _ = cit (σ 233 t = nI 3) (σ 239 t) (-6) by rw [cit_F q4]; rfl), rfl⟩)
          · have q4 : σ 233 t = nI 3 := e1.symm.trans (qneF q4)
            repeat refine kX_one rfl ?_
            refine kX_ialdN rfl rfl (by decide) (t) (by first | rfl | decide) (by omega) ?_
            repeat refine kX_one rfl ?_
            refine kX_ret (i := .ireturn) (len := 1) rfl (Or.inr rfl) rfl (⟨congrArg (fun z => some (Value.int z)) (show _ = cit (σ 233 t = nI 3) (σ 239 t) (-6) by rw [cit_T q4, (e7 q4).1]), rfl⟩)
        · repeat refine kX_one rfl ?_
          refine kX_if (fun q4 => ?_) (fun q4 => ?_)
          · have q4 : ¬ σ 233 t = nI 3 := fun z => qne q4 (e1.trans z)
            repeat refine kX_one rfl ?_
            refine kX_ret (i := .ireturn) (len := 1) rfl (Or.inr rfl) rfl (⟨congrArg (fun z => some (Value.int z)) (show _ = cit (σ 233 t = nI 3) (σ 240 t) (-6) by rw [cit_F q4]; rfl), rfl⟩)
          · have q4 : σ 233 t = nI 3 := e1.symm.trans (qneF q4)
            repeat refine kX_one rfl ?_
            refine kX_ialdN rfl rfl (by decide) (t) (by first | rfl | decide) (by omega) ?_
            repeat refine kX_one rfl ?_
            refine kX_ret (i := .ireturn) (len := 1) rfl (Or.inr rfl) rfl (⟨congrArg (fun z => some (Value.int z)) (show _ = cit (σ 233 t = nI 3) (σ 240 t) (-6) by rw [cit_T q4, (e7 q4).2.1]), rfl⟩)
        · repeat refine kX_one rfl ?_
          refine kX_if (fun q4 => ?_) (fun q4 => ?_)
          · have q4 : ¬ σ 233 t = nI 3 := fun z => qne q4 (e1.trans z)
            repeat refine kX_one rfl ?_
            refine kX_ret (i := .ireturn) (len := 1) rfl (Or.inr rfl) rfl (⟨congrArg (fun z => some (Value.int z)) (show _ = cit (σ 233 t = nI 3) (σ 241 t) (-6) by rw [cit_F q4]; rfl), rfl⟩)
          · have q4 : σ 233 t = nI 3 := e1.symm.trans (qneF q4)
            repeat refine kX_one rfl ?_
            refine kX_ialdN rfl rfl (by decide) (t) (by first | rfl | decide) (by omega) ?_
            repeat refine kX_one rfl ?_
            refine kX_ret (i := .ireturn) (len := 1) rfl (Or.inr rfl) rfl (⟨congrArg (fun z => some (Value.int z)) (show _ = cit (σ 233 t = nI 3) (σ 241 t) (-6) by rw [cit_T q4, (e7 q4).2.2]), rfl⟩)
      · have q3 := qleF q3 k 8
        have q3 : ¬ isN (nI k) 9 := fun ⟨j, j1, j2⟩ => by
          have := nI_inj j2
          omega
        repeat refine kX_one rfl ?_
        refine kX_ret (i := .ireturn) (len := 1) rfl (Or.inr rfl) rfl (⟨congrArg (fun z => some (Value.int z)) (show _ = abA σ n (nI t) (nI k) by unfold abA; rw [cit_T ⟨t, ht, rfl⟩, cit_F q3]; rfl), rfl⟩)
  · have q : ¬ isN x n := fun z => isB_ne.mpr z (qneF q)
    repeat refine kX_one rfl ?_
    refine kX_ret (i := .ireturn) (len := 1) rfl (Or.inr rfl) rfl (⟨congrArg (fun z => some (Value.int z)) (show _ = abA σ n x w by unfold abA; rw [cit_F q]; rfl), rfl⟩)
theorem bo_about (L : Nat) (xs : Nat → Int32) (d d' m : Nat) (σ : kS) (x w : Int32) (h : bJ m σ) : kXM kT L xs (d + 2) 113 [.ref 0, .int x, .int w] σ (fun r τ => ∃ z, r = some (.int z) ∧ kXM kT L xs (d' + 2) 160 [.ref 232, .int x, .int w] τ (fun r' ω => r' = some (.int z) ∧ bJ m ω)) := by
  have hb := h
  obtain ⟨n, b, R, S, C, kl, h⟩ := h
  exact bo_same hb (kt_about L xs d σ n b x w h.1.1 h.2.1.1 h.2.2.1) (mt_about L xs d' σ n b x w h.1.1)
