/-! the reference: the row from its beginning to its end -/
noncomputable def psR (σ : kS) : Nat → Nat → rwT → rwT
  | 0, _, l => l
  | f + 1, p, l => if p < l.length then psR σ f (p + 1) (tkR σ l p) else l
noncomputable def enR (σ : kS) : Nat → rwT → rwT
  | 0, l => l
  | f + 1, l => if l.length < (psR σ 1001 0 l).length then enR σ f (psR σ 1001 0 l) else psR σ 1001 0 l
theorem tkR_len (σ : kS) (l : rwT) (p : Nat) : l.length ≤ (tkR σ l p).length := by
  have hA : ∀ (l : rwT) t w q, l.length ≤ (rwA l t w q).length := fun l t w q => by
    rcases rwA_len (l := l) (t := t) (w := w) (p := q) with e | e
    · rw [e]
      exact Nat.le_refl _
    · rw [e, List.length_append]
      omega
  unfold tkR
  split
  · unfold tkT cit
    repeat' split
    all_goals first | exact Nat.le_refl _ | exact hA _ _ _ _ | exact Nat.le_trans (hA _ _ _ _) (hA _ _ _ _)
  · exact Nat.le_refl _
theorem psR_len (σ : kS) : ∀ (f p : Nat) (l : rwT), l.length ≤ (psR σ f p l).length
  | 0, _, _ => Nat.le_refl _
  | f + 1, p, l => by
    unfold psR
    split
    · exact Nat.le_trans (tkR_len σ l p) (psR_len σ f (p + 1) _)
    · exact Nat.le_refl _
/-- the row's functions hang on the table alone -/
theorem rwF_tkR {σ τ : kS} (h : rwF σ τ) (l : rwT) (p : Nat) : tkR τ l p = tkR σ l p := by
  obtain ⟨⟨_, _, _, _, _, _, rfl⟩, -⟩ := h
  rfl
theorem rwF_mvG {σ τ : kS} (h : rwF σ τ) (n b : Nat) : mvG τ n b = mvG σ n b := by
  obtain ⟨⟨_, _, _, _, _, _, rfl⟩, -⟩ := h
  rfl
set_option maxRecDepth 100000 in
set_option maxHeartbeats 4000000 in
theorem mr_endRow (L : Nat) (xs : Nat → Int32) (d : Nat) (σ : kS) (n b : Nat) (l : rwT) (h : mTb σ n b) (hq : mRq σ (mvG σ n b) l) (hj : mJd σ n b l) : kXM kT L xs (d + 6) 183 [.ref 232] σ (fun r σ' => r = none ∧ rwF σ σ' ∧ mRq σ' (mvG σ n b) (enR σ 1001 l) ∧ mJd σ' n b (enR σ 1001 l)) := by
  unfold kXM
  /- one time through -/
  have inner : ∀ (l0 : rwT) (τ0 : kS) (Q : Option Value → kS → Prop), rwF σ τ0 → mRq τ0 (mvG σ n b) l0 → mJd τ0 n b l0 →
      (∀ τ, rwF σ τ → mRq τ (mvG σ n b) (psR σ 1001 0 l0) → mJd τ n b (psR σ 1001 0 l0) → kX kT L xs (d + 6) 183 32 [(0, .ref 232), (2, .int (nI l0.length))] [] τ Q) →
      kX kT L xs (d + 6) 183 13 [(3, .int (nI 0)), (2, .int (nI l0.length)), (0, .ref 232)] [] τ0 Q := by
    intro l0 τ0 Q i1 i2 i3 he
    refine kX_while (fun q : Nat × rwT × kS => [(3, .int (nI q.1)), (2, .int (nI l0.length)), (0, .ref 232)]) (fun q => q.2.2) (fun q => q.1 ≤ q.2.1.length ∧ rwF σ q.2.2 ∧ mRq q.2.2 (mvG σ n b) q.2.1 ∧ mJd q.2.2 n b q.2.1 ∧ psR σ (1001 - q.1) q.1 q.2.1 = psR σ 1001 0 l0) (fun q => 1001 - q.1) ?_ (0, l0, τ0) ⟨Nat.zero_le _, i1, i2, i3, rfl⟩
    rintro ⟨p, l1, τ⟩ ⟨j1, j2, j3, j4, j5⟩ ih
    dsimp only at j1 j2 j3 j4 j5 ih ⊢
    have hl1 := mRq_len j3
    iterate 3 (refine kX_one rfl ?_)
    refine kX_top (j3.1) ?_
    repeat refine kX_one rfl ?_
    refine kX_if (fun q => ?_) (fun q => ?_)
    · have q := qge q p l1.length
      have e : psR σ (1001 - p) p l1 = l1 := by
        rw [show 1001 - p = (1000 - p) + 1 by omega]
        unfold psR
        rw [if_neg (by omega)]
      rw [e] at j5
      subst j5
      refine kX_lv ([(0, .ref 232), (2, .int (nI l0.length))]) rfl rfl rfl ?_
      exact he τ j2 j3 j4
    · have q := qgeF q p l1.length
      have e : psR σ (1001 - p) p l1 = psR σ (1001 - (p + 1)) (p + 1) (tkR σ l1 p) := by
        rw [show 1001 - p = (1001 - (p + 1)) + 1 by omega, psR, if_pos q]
      rw [e] at j5
      repeat refine kX_one rfl ?_
      have hG := rwF_mvG j2 n b
      refine kX_cal (mr_takeApart L xs d τ n b l1 p (rwF_Tb j2 h) (by rw [hG]; exact j3) j4 q) rfl (Or.inr rfl) rfl rfl rfl (fun r1 σ1 q1 => ?_)
      obtain ⟨rfl, f1, f2, f3⟩ := q1
      rw [rwF_tkR j2] at f2 f3
      rw [hG] at f2
      iterate 2 (refine kX_one rfl ?_)
      have := ih (p + 1, tkR σ l1 p, σ1) ⟨by have := tkR_len σ l1 p; simp only; omega, rwF_trans j2 f1, f2, f3, j5⟩ (by simp only; omega)
      rw [← nI_1] at this
      exact this
  iterate 2 (refine kX_one rfl ?_)
  refine kX_lv [(1, .int (isB True)), (0, .ref 232)] rfl rfl (by rw [isB_T trivial]; rfl) ?_
  refine kX_while (fun q : Prop × Nat × rwT × kS => [(1, .int (isB q.1)), (0, .ref 232)]) (fun q => q.2.2.2) (fun q => rwF σ q.2.2.2 ∧ mRq q.2.2.2 (mvG σ n b) q.2.2.1 ∧ mJd q.2.2.2 n b q.2.2.1 ∧ ((¬ q.1 ∧ q.2.2.1 = enR σ 1001 l) ∨ (q.1 ∧ 0 < q.2.1 ∧ 1001 ≤ q.2.1 + q.2.2.1.length ∧ enR σ q.2.1 q.2.2.1 = enR σ 1001 l))) (fun q => q.2.1) ?_ (True, 1001, l, σ) ⟨rwF_refl σ, hq, hj, Or.inr ⟨trivial, by simp only; omega, by simp only; omega, rfl⟩⟩
  rintro ⟨P, f, l1, τ⟩ ⟨j1, j2, j3, j4⟩ ih
  dsimp only at j1 j2 j3 j4 ih ⊢
  repeat refine kX_one rfl ?_
  refine kX_if (fun q => ?_) (fun q => ?_)
  · have q : ¬ P := fun z => isB_ne.mpr z (qeq q)
    rcases j4 with ⟨-, rfl⟩ | ⟨j4, -⟩
    · refine kX_ret (i := .return_) (len := 1) rfl (Or.inr rfl) rfl (⟨rfl, j1, j2, j3⟩)
    · exact absurd j4 q
  · have q : P := isB_ne.mp (qeqF q)
    rcases j4 with ⟨j4, -⟩ | ⟨-, f0, f1, f2⟩
    · exact absurd q j4
    · have hl1 := mRq_len j2
      iterate 2 (refine kX_one rfl ?_)
      refine kX_top (j2.1) ?_
      iterate 3 (refine kX_one rfl ?_)
      refine kX_lv [(3, .int (nI 0)), (2, .int (nI l1.length)), (0, .ref 232)] rfl rfl rfl ?_
      refine inner l1 τ _ j1 j2 j3 (fun τ2 k1 k2 k3 => ?_)
      have hl2 := mRq_len k2
      obtain ⟨f, rfl⟩ : ∃ g, f = g + 1 := ⟨f - 1, by omega⟩
      have hlen := psR_len σ 1001 0 l1
      rw [enR] at f2
      iterate 2 (refine kX_one rfl ?_)
      refine kX_top (k2.1) ?_
      repeat refine kX_one rfl ?_
      refine kX_if (fun q2 => ?_) (fun q2 => ?_)
      · have q2 := qle q2 (psR σ 1001 0 l1).length l1.length
        rw [if_neg (by omega)] at f2
        iterate 3 (refine kX_one rfl ?_)
        refine kX_lv [(1, .int (isB False)), (0, .ref 232)] rfl rfl (by rw [isB_F id]; rfl) ?_
        exact ih (False, f, psR σ 1001 0 l1, τ2) ⟨k1, k2, k3, Or.inl ⟨id, f2⟩⟩ (by simp only; omega)
      · have q2 := qleF q2 (psR σ 1001 0 l1).length l1.length
        rw [if_pos (by omega)] at f2
        iterate 4 (refine kX_one rfl ?_)
        refine kX_lv [(1, .int (isB True)), (0, .ref 232)] rfl rfl (by rw [isB_T trivial]; rfl) ?_
        exact ih (True, f, psR σ 1001 0 l1, τ2) ⟨k1, k2, k3, Or.inr ⟨trivial, by simp only; omega, by simp only; omega, f2⟩⟩ (by simp only; omega)
