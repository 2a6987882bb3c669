/-! alike: atom, term, of -/
set_option maxRecDepth 100000 in
set_option maxHeartbeats 4000000 in
theorem bo_atom (L : Nat) (xs : Nat → Int32) (d d' m : Nat) (σ : kS) (x : Int32) (h : bJ m σ) : kXM kT L xs (d + 5) 110 [.ref 0, .int x] σ (fun r τ => ∃ z, r = some (.int z) ∧ kXM kT L xs (d' + 4) 156 [.ref 232, .int x] τ (fun r' ω => r' = some (.int z) ∧ bJ m ω)) := by
  obtain ⟨n, b, R, S, C, kl, h⟩ := h
  have hI := h.1
  have hT := h.2.1.1
  -- the reference
  have mg : ∀ (τ : kS) (Q : Option Value → kS → Prop), mI τ n b R S C kl → (¬ (x = nI 1 ∨ x = nI 2) → Q (some (.int (-2))) τ) → (∀ k, 1 ≤ k → k ≤ 2 → x = nI k → n = 200 → Q (some (.int (-4))) τ) → (∀ k ω, 1 ≤ k → k ≤ 2 → x = nI k → n < 200 → mNw τ ω n k (-1) (-1) → Q (some (.int (nI n))) ω) → kXM kT L xs (d' + 4) 156 [.ref 232, .int x] τ Q := by
    intro τ Q hI hO hF hN
    have h1 := hI.1
    have hn := h1.1
    unfold kXM
    repeat refine kX_one rfl ?_
    refine kX_cal (mr_in L xs (d' + 3) τ _ _ _) rfl (Or.inr rfl) rfl rfl rfl (fun r1 σ1 q1 => ?_)
    obtain ⟨rfl, rfl⟩ := q1
    rw [isB_dec]
    repeat refine kX_one rfl ?_
    refine kX_if (fun q => ?_) (fun q => ?_)
    · obtain ⟨k, k1, k2, hk⟩ := in_R (lo := 1) (hi := 2) (by omega) (by omega) (isB_ne.mp (qne q)).1 (isB_ne.mp (qne q)).2
      repeat refine kX_one rfl ?_
      refine kX_if (fun q => ?_) (fun q => ?_)
      · have q : n ≠ 200 := fun e => qne q (by rw [h1.2.2.2.1, e]; decide)
        subst hk
        repeat refine kX_one rfl ?_
        refine kX_cal (mr_last L xs d' τ n b k (-1) (-1) 0 0 h1 (by omega) (Or.inl ⟨by omega, rfl, rfl⟩) (by omega) (by omega) (by omega) (by unfold msz; rw [if_pos (by omega)]; decide)) rfl (Or.inr rfl) rfl rfl rfl (fun r1 σ1 q1 => ?_)
        obtain ⟨rfl, hnew⟩ := q1
        repeat refine kX_one rfl ?_
        refine kX_ret (i := .ireturn) (len := 1) rfl (Or.inr rfl) rfl (hN k _ k1 k2 rfl (by omega) hnew)
      · have q : n = 200 := by
          have := qneF q
          rw [h1.2.2.2.1] at this
          exact nI_inj this
        repeat refine kX_one rfl ?_
        refine kX_ret (i := .ireturn) (len := 1) rfl (Or.inr rfl) rfl (hF k k1 k2 hk q)
    · have q := qneF q
      repeat refine kX_one rfl ?_
      refine kX_ret (i := .ireturn) (len := 1) rfl (Or.inr rfl) rfl (hO (fun z => isB_ne.mpr (by rcases z with rfl | rfl <;> decide) q))
  unfold kXM
  have k13 : ∀ k, 1 ≤ k → k ≤ 2 → x = nI k → kX kT L xs (d + 5) 110 13 (lv_args 0 [.ref 0, .int x]) [] σ (fun r τ => ∃ z, r = some (.int z) ∧ kXM kT L xs (d' + 4) 156 [.ref 232, .int x] τ (fun r' ω => r' = some (.int z) ∧ bJ m ω)) := by
    intro k k1 hk hx
    iterate 2 (refine kX_one rfl ?_)
    refine kX_cal (mc_isFull L xs (d + 3) σ n hT.1 hT.2.1) rfl (Or.inr rfl) rfl rfl rfl (fun r1 σ1 q1 => ?_)
    obtain ⟨rfl, rfl⟩ := q1
    repeat refine kX_one rfl ?_
    refine kX_if (fun q => ?_) (fun q => ?_)
    · have hlt : n < 200 := by
        have : ¬ n = 200 := fun z => isB_ne.mpr z (qeq q)
        have := hT.1
        omega
      iterate 4 (refine kX_one rfl ?_)
      refine kX_cal (y := 104) (as := [.ref 1, .int x, .int 0]) (by rw [hx]; exact mf_newAtom L xs d σ n k 0 hT hk (Or.inl rfl) hlt) rfl (Or.inr rfl) rfl rfl rfl (fun r1 σ1 q1 => ?_)
      obtain ⟨rfl, rfl⟩ := q1
      have hIt := aJ_hi h (cGr_hi (cT_at (k := k) (b := 0) hT hlt hk).2)
      refine kX_ret (i := .ireturn) (len := 1) rfl (Or.inr rfl) rfl (⟨_, rfl, mg _ _ hIt (fun z => absurd (show x = nI 1 ∨ x = nI 2 by rw [hx]; rcases (show k = 1 ∨ k = 2 by omega) with rfl | rfl <;> simp) z) (fun _ _ _ _ z => by omega) (fun k' ω k1' k2' e _ hN => ⟨rfl, ?_⟩)⟩)
      obtain rfl : k' = k := nI_inj (e.symm.trans hx)
      have := bJ_at (f := ω 238) h hlt hk hN (by omega) (fun u hu => by rw [(mGr_new hN).1 238 (by decide)]; rfl)
      rw [va_same] at this
      exact this
    · have hf : n = 200 := isB_ne.mp (qeqF q)
      repeat refine kX_one rfl ?_
      refine kX_ret (i := .ireturn) (len := 1) rfl (Or.inr rfl) rfl (⟨_, rfl, mg _ _ hI (fun z => absurd (show x = nI 1 ∨ x = nI 2 by rw [hx]; rcases (show k = 1 ∨ k = 2 by omega) with rfl | rfl <;> simp) z) (fun _ _ _ _ z => ⟨rfl, n, b, R, S, C, kl, h⟩) (fun _ _ _ _ _ z => by omega)⟩)
  repeat refine kX_one rfl ?_
  refine kX_if (fun q => ?_) (fun q => ?_)
  · exact k13 1 (by decide) (by decide) (qeq q)
  · have q1 := qeqF q
    repeat refine kX_one rfl ?_
    refine kX_if (fun q => ?_) (fun q => ?_)
    · exact k13 2 (by decide) (by decide) (qeq q)
    · have q2 := qeqF q
      have q3 : ¬ (x = nI 1 ∨ x = nI 2) := fun z => z.elim q1 q2
      repeat refine kX_one rfl ?_
      refine kX_ret (i := .ireturn) (len := 1) rfl (Or.inr rfl) rfl (⟨_, rfl, mg _ _ hI (fun _ => ⟨rfl, n, b, R, S, C, kl, h⟩) (fun k k1 k2 e => absurd (show x = nI 1 ∨ x = nI 2 by rw [e]; rcases (show k = 1 ∨ k = 2 by omega) with rfl | rfl <;> simp) q3) (fun k _ k1 k2 e => absurd (show x = nI 1 ∨ x = nI 2 by rw [e]; rcases (show k = 1 ∨ k = 2 by omega) with rfl | rfl <;> simp) q3)⟩)
set_option maxRecDepth 100000 in
set_option maxHeartbeats 4000000 in
theorem mg_term (L : Nat) (xs : Nat → Int32) (d : Nat) (σ : kS) (n b : Nat) (w x y : Int32) (Q : Option Value → kS → Prop) (h1 : mTb σ n b) (hU : ¬ (isN x n ∧ (w = nI 9 ∨ isN y n)) → Q (some (.int (-1))) σ) (hO : isN x n ∧ (w = nI 9 ∨ isN y n) → ¬ (w = nI 4 ∨ w = nI 5 ∨ w = nI 9) → Q (some (.int (-2))) σ) (hC : isN x n ∧ (w = nI 9 ∨ isN y n) → (w = nI 4 ∨ w = nI 5 ∨ w = nI 9) → kXM kT L xs (d + 4) 157 [.ref 232, .int w, .int x, .int (cit (w = nI 9) (-1) y)] σ (fun r τ => ∃ z, r = some (.int z) ∧ Q (some (.int z)) τ)) : kXM kT L xs (d + 5) 158 [.ref 232, .int w, .int x, .int y] σ Q := by
  have hn := h1.1
  unfold kXM
  repeat refine kX_one rfl ?_
  refine kX_cal (mr_isTerm L xs (d + 3) σ n x h1.2.2.2.1 (by omega)) rfl (Or.inr rfl) rfl rfl rfl (fun r1 σ1 q1 => ?_)
  obtain ⟨rfl, rfl⟩ := q1
  repeat refine kX_one rfl ?_
  refine kX_if (fun q => ?_) (fun q => ?_)
  · have q : ¬ isN x n := fun z => isB_ne.mpr z (qeq q)
    repeat refine kX_one rfl ?_
    refine kX_ret (i := .ireturn) (len := 1) rfl (Or.inr rfl) rfl (hU (fun z => q z.1))
  · have hx := isB_ne.mp (qeqF q)
    repeat refine kX_one rfl ?_
    refine kX_if (fun q => ?_) (fun q => ?_)
    · have q : w = nI 9 := qeq q
      have hC := hC ⟨hx, Or.inl q⟩ (Or.inr (Or.inr q))
      rw [cit_T q] at hC
      subst q
      repeat refine kX_one rfl ?_
      refine kX_cal hC rfl (Or.inr rfl) rfl rfl rfl (fun r1 σ1 q1 => ?_)
      obtain ⟨z, rfl, q1⟩ := q1
      repeat refine kX_one rfl ?_
      refine kX_ret (i := .ireturn) (len := 1) rfl (Or.inr rfl) rfl (q1)
    · have q9 : w ≠ nI 9 := qeqF q
      repeat refine kX_one rfl ?_
      refine kX_cal (mr_isTerm L xs (d + 3) σ n y h1.2.2.2.1 (by omega)) rfl (Or.inr rfl) rfl rfl rfl (fun r1 σ1 q1 => ?_)
      obtain ⟨rfl, rfl⟩ := q1
      repeat refine kX_one rfl ?_
      refine kX_if (fun q => ?_) (fun q => ?_)
      · have hy := isB_ne.mp (qne q)
        repeat refine kX_one rfl ?_
        refine kX_if (fun q => ?_) (fun q => ?_)
        · have q : w = nI 4 := qeq q
          have hC := hC ⟨hx, Or.inr hy⟩ (Or.inl q)
          rw [cit_F q9] at hC
          subst q
          repeat refine kX_one rfl ?_
          refine kX_cal hC rfl (Or.inr rfl) rfl rfl rfl (fun r1 σ1 q1 => ?_)
          obtain ⟨z, rfl, q1⟩ := q1
          repeat refine kX_one rfl ?_
          refine kX_ret (i := .ireturn) (len := 1) rfl (Or.inr rfl) rfl (q1)
        · have q4 : w ≠ nI 4 := qeqF q
          repeat refine kX_one rfl ?_
          refine kX_if (fun q => ?_) (fun q => ?_)
          · have q : w = nI 5 := qeq q
            have hC := hC ⟨hx, Or.inr hy⟩ (Or.inr (Or.inl q))
            rw [cit_F q9] at hC
            subst q
            repeat refine kX_one rfl ?_
            refine kX_cal hC rfl (Or.inr rfl) rfl rfl rfl (fun r1 σ1 q1 => ?_)
            obtain ⟨z, rfl, q1⟩ := q1
            repeat refine kX_one rfl ?_
            refine kX_ret (i := .ireturn) (len := 1) rfl (Or.inr rfl) rfl (q1)
          · have q5 : w ≠ nI 5 := qeqF q
            repeat refine kX_one rfl ?_
            refine kX_if (fun q => ?_) (fun q => ?_)
            · exact absurd (qeq q) q9
            · repeat refine kX_one rfl ?_
              refine kX_ret (i := .ireturn) (len := 1) rfl (Or.inr rfl) rfl (hO ⟨hx, Or.inr hy⟩ (fun z => z.elim q4 (fun z => z.elim q5 q9)))
      · have q : ¬ isN y n := fun z => isB_ne.mpr z (qneF q)
        repeat refine kX_one rfl ?_
        refine kX_ret (i := .ireturn) (len := 1) rfl (Or.inr rfl) rfl (hU (fun z => z.2.elim q9 q))
set_option maxRecDepth 100000 in
set_option maxHeartbeats 4000000 in
theorem kg_term (L : Nat) (xs : Nat → Int32) (d : Nat) (σ : kS) (n : Nat) (w x y : Int32) (Q : Option Value → kS → Prop) (hT : cT σ n) (hU : ¬ (isN x n ∧ (w = nI 9 ∨ isN y n)) → Q (some (.int (-1))) σ) (hO : isN x n ∧ (w = nI 9 ∨ isN y n) → ¬ (w = nI 4 ∨ w = nI 5 ∨ w = nI 9) → Q (some (.int (-2))) σ) (hC : isN x n ∧ (w = nI 9 ∨ isN y n) → (w = nI 4 ∨ w = nI 5 ∨ w = nI 9) → kXM kT L xs (d + 5) 142 [.ref 0, .int w, .int x, .int (cit (w = nI 9) (-1) y)] σ (fun r τ => ∃ z, r = some (.int z) ∧ Q (some (.int z)) τ)) : kXM kT L xs (d + 6) 111 [.ref 0, .int w, .int x, .int y] σ Q := by
  have hn := hT.1
  unfold kXM
  have k28 : ¬ (isN x n ∧ (w = nI 9 ∨ isN y n)) → kX kT L xs (d + 6) 111 28 (lv_args 0 [.ref 0, .int w, .int x, .int y]) [] σ Q := by
    intro q
    repeat refine kX_one rfl ?_
    refine kX_ret (i := .ireturn) (len := 1) rfl (Or.inr rfl) rfl (hU q)
  have k30 : isN x n ∧ (w = nI 9 ∨ isN y n) → kX kT L xs (d + 6) 111 30 (lv_args 0 [.ref 0, .int w, .int x, .int y]) [] σ Q := by
    intro hA
    have k49 : (w = nI 4 ∨ w = nI 5 ∨ w = nI 9) → kX kT L xs (d + 6) 111 49 (lv_args 0 [.ref 0, .int w, .int x, .int y]) [] σ Q := by
      intro hB
      have hC := hC hA hB
      iterate 5 (refine kX_one rfl ?_)
      repeat refine kX_one rfl ?_
      refine kX_if (fun q => ?_) (fun q => ?_)
      · have q : w ≠ nI 9 := qne q
        rw [cit_F q] at hC
        iterate 1 (refine kX_one rfl ?_)
        refine kX_cal hC rfl (Or.inr rfl) rfl rfl rfl (fun r1 σ1 q1 => ?_)
        obtain ⟨v, rfl, hq⟩ := q1
        refine kX_ret (i := .ireturn) (len := 1) rfl (Or.inr rfl) rfl (hq)
      · have q : w = nI 9 := qneF q
        rw [cit_T q] at hC
        iterate 2 (refine kX_one rfl ?_)
        refine kX_cal hC rfl (Or.inr rfl) rfl rfl rfl (fun r1 σ1 q1 => ?_)
        obtain ⟨v, rfl, hq⟩ := q1
        refine kX_ret (i := .ireturn) (len := 1) rfl (Or.inr rfl) rfl (hq)
    repeat refine kX_one rfl ?_
    refine kX_if (fun q => ?_) (fun q => ?_)
    · exact k49 (Or.inl (qeq q))
    · have q4 : w ≠ nI 4 := qeqF q
      repeat refine kX_one rfl ?_
      refine kX_if (fun q => ?_) (fun q => ?_)
      · exact k49 (Or.inr (Or.inl (qeq q)))
      · have q5 : w ≠ nI 5 := qeqF q
        repeat refine kX_one rfl ?_
        refine kX_if (fun q => ?_) (fun q => ?_)
        · exact k49 (Or.inr (Or.inr (qeq q)))
        · have q9 : w ≠ nI 9 := qeqF q
          repeat refine kX_one rfl ?_
          refine kX_ret (i := .ireturn) (len := 1) rfl (Or.inr rfl) rfl (hO hA (fun z => z.elim q4 (fun z => z.elim q5 q9)))
  iterate 3 (refine kX_one rfl ?_)
  refine kX_cal (mc_has L xs (d + 4) σ n x hn hT.2.1) rfl (Or.inr rfl) rfl rfl rfl (fun r1 σ1 q1 => ?_)
  obtain ⟨rfl, rfl⟩ := q1
  repeat refine kX_one rfl ?_
  refine kX_if (fun q => ?_) (fun q => ?_)
  · exact k28 (fun z => isB_ne.mpr z.1 (qeq q))
  · have hx := isB_ne.mp (qeqF q)
    repeat refine kX_one rfl ?_
    refine kX_if (fun q => ?_) (fun q => ?_)
    · exact k30 ⟨hx, Or.inl (qeq q)⟩
    · have q9 : w ≠ nI 9 := qeqF q
      iterate 3 (refine kX_one rfl ?_)
      refine kX_cal (mc_has L xs (d + 4) σ n y hn hT.2.1) rfl (Or.inr rfl) rfl rfl rfl (fun r1 σ1 q1 => ?_)
      obtain ⟨rfl, rfl⟩ := q1
      repeat refine kX_one rfl ?_
      refine kX_if (fun q2 => ?_) (fun q2 => ?_)
      · exact k30 ⟨hx, Or.inr (isB_ne.mp (qne q2))⟩
      · exact k28 (fun z => z.2.elim q9 (fun z => isB_ne.mpr z (qneF q2)))
theorem bo_term (L : Nat) (xs : Nat → Int32) (d d' m : Nat) (σ : kS) (w x y : Int32) (h : bJ m σ) : kXM kT L xs (d + 6) 111 [.ref 0, .int w, .int x, .int y] σ (fun r τ => ∃ z, r = some (.int z) ∧ kXM kT L xs (d' + 5) 158 [.ref 232, .int w, .int x, .int y] τ (fun r' ω => r' = some (.int z) ∧ bJ m ω)) := by
  have hb := h
  obtain ⟨n, b, R, S, C, kl, h⟩ := h
  have hn := h.1.1.1
  refine kg_term L xs d σ n w x y _ h.2.1.1 (fun q => ⟨_, rfl, ?_⟩) (fun q q2 => ⟨_, rfl, ?_⟩) (fun q q2 => ?_)
  · exact mg_term L xs d' σ n b w x y _ h.1.1 (fun _ => ⟨rfl, hb⟩) (fun z => absurd z q) (fun z => absurd z q)
  · exact mg_term L xs d' σ n b w x y _ h.1.1 (fun z => absurd q z) (fun _ _ => ⟨rfl, hb⟩) (fun _ z => absurd z q2)
  · obtain ⟨⟨u, hu, rfl⟩, hy⟩ := q
    have key : ∃ k v, 3 < k ∧ w = nI k ∧ tNw k (nI u) (cit (w = nI 9) (-1) y) u v n ∧ k ≠ 6 ∧ k ≠ 7 ∧ k ≠ 8 := by
      by_cases q9 : w = nI 9
      · rw [cit_T q9]
        exact ⟨9, 0, by decide, q9, Or.inr (Or.inr ⟨Or.inr rfl, rfl, rfl, hu⟩), by decide, by decide, by decide⟩
      · rw [cit_F q9]
        obtain ⟨v, hv, rfl⟩ := hy.elim (fun z => absurd z q9) id
        rcases q2 with z | z | z
        · exact ⟨4, v, by decide, z, Or.inr (Or.inl ⟨Or.inl rfl, rfl, rfl, hu, hv⟩), by decide, by decide, by decide⟩
        · exact ⟨5, v, by decide, z, Or.inr (Or.inl ⟨Or.inr (Or.inl rfl), rfl, rfl, hu, hv⟩), by decide, by decide, by decide⟩
        · exact absurd z q9
    obtain ⟨k, v, k3, rfl, hw, k6, k7, k8⟩ := key
    refine kXM_mono (bo_comp L xs d d' σ n b R S C m k u v kl _ _ h k3 hw (by omega) (by omega)) (fun r τ q => ?_)
    obtain ⟨z, rfl, t1, t2, t3⟩ := q
    refine ⟨z, rfl, z, rfl, mg_term L xs d' τ n b _ _ _ _ t1.1 (fun q => absurd ⟨⟨u, hu, rfl⟩, hy⟩ q) (fun _ q => absurd q2 q) (fun _ _ => kXM_mono t3 (fun r ω q => ⟨z, q.1, rfl, q.2⟩))⟩
