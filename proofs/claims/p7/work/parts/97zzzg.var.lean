/-! alike: variable -/
def mayS (y z : Int32) : Prop := (y = nI 0 ∧ z = nI 0) ∨ (y = nI 1 ∧ (z = nI 1 ∨ z = nI 2)) ∨ (y = nI 2 ∧ isN z 4)
set_option maxRecDepth 100000 in
set_option maxHeartbeats 4000000 in
theorem mg_variable (L : Nat) (xs : Nat → Int32) (d : Nat) (σ : kS) (n b R S C : Nat) (kl : List Nat) (x y z : Int32) (Q : Option Value → kS → Prop) (h : mI σ n b R S C kl) (hU : ¬ isN x R → Q (some (.int (-1))) σ) (hO : isN x R → ¬ mayS y z → Q (some (.int (-2))) σ) (hS : ∀ r, r < R → x = nI r → mayS y z → σ 250 r ≠ 0 → Q (some (.int (-3))) σ) (hF : ∀ r, r < R → x = nI r → mayS y z → σ 250 r = 0 → (σ 244 r = nI 6 ∨ n = 200) → Q (some (.int (-4))) σ)
    (hN : ∀ r v as so σ1, r < R → x = nI r → mayS y z → σ 250 r = 0 → σ 244 r = nI v → v < 6 → n < 200 → y = nI as → z = nI so → as ≤ 2 → so ≤ 3 → mNw σ σ1 n 3 (-1) (-1) → mI (vaS σ1 n r v (nI so) (nI as)) (n + 1) 200 R S C kl → Q (some (.int (nI n))) (vaS σ1 n r v (nI so) (nI as))) : kXM kT L xs (d + 5) 163 [.ref 232, .int x, .int y, .int z] σ Q := by
  have h1 := h.1
  have h2 := h.2.1
  have h3 := h.2.2.1
  have hn := h1.1
  have hR4 := h2.1
  unfold kXM
  repeat refine kX_one rfl ?_
  refine kX_cal (mr_isRole L xs (d + 3) σ R x h2.2.1 (by omega)) rfl (Or.inr rfl) rfl rfl rfl (fun r1 σ1 q1 => ?_)
  obtain ⟨rfl, rfl⟩ := q1
  repeat refine kX_one rfl ?_
  refine kX_if (fun q => ?_) (fun q => ?_)
  · obtain ⟨r, hr, rfl⟩ := isB_ne.mp (qne q)
    obtain ⟨⟨v, hv6, hv⟩, ev, he6, hev⟩ := h2.2.2.1 r hr
    have hfv : fN (σ 244 r) = v := by rw [hv]; exact fN_nI (by omega)
    have key : ∀ as so, y = nI as → z = nI so → as ≤ 2 → so ≤ 3 → (as = 0 → so = 0) → (as = 1 → so = 1 ∨ so = 2) → kX kT L xs (d + 5) 163 52 [(0, .ref 232), (1, .int (nI r)), (2, .int (nI as)), (3, .int (nI so))] [] σ Q := by
      intro as so ey ez has hso h0 h01
      have hM : mayS y z := by
        rw [ey, ez]
        have : as = 0 ∨ as = 1 ∨ as = 2 := by omega
        rcases this with rfl | rfl | rfl
        · rw [h0 rfl]
          exact Or.inl ⟨rfl, rfl⟩
        · rcases h01 rfl with rfl | rfl
          · exact Or.inr (Or.inl ⟨rfl, Or.inl rfl⟩)
          · exact Or.inr (Or.inl ⟨rfl, Or.inr rfl⟩)
        · exact Or.inr (Or.inr ⟨rfl, so, by omega, rfl⟩)
      repeat refine kX_one rfl ?_
      refine kX_baldN rfl rfl (by decide) (r) (by first | rfl | decide) (by omega) ?_
      repeat refine kX_one rfl ?_
      refine kX_if (fun q => ?_) (fun q => ?_)
      · have hcl : σ 250 r = 0 := qeq q
        repeat refine kX_one rfl ?_
        refine kX_ialdV rfl rfl (by decide) (r) (by first | rfl | decide) (by omega) (hv) ?_
        repeat refine kX_one rfl ?_
        refine kX_if (fun q => ?_) (fun q => ?_)
        · have q : v = 6 := nI_inj (qeq q)
          repeat refine kX_one rfl ?_
          refine kX_ret (i := .ireturn) (len := 1) rfl (Or.inr rfl) rfl (hF r hr rfl hM hcl (Or.inl (by rw [hv, q])))
        · have hv6' : v ≠ 6 := fun e => qeqF q (by rw [e]; rfl)
          repeat refine kX_one rfl ?_
          refine kX_if (fun q => ?_) (fun q => ?_)
          · have hn200 : n ≠ 200 := fun e => qne q (by rw [h1.2.2.2.1, e]; decide)
            repeat refine kX_one rfl ?_
            refine kX_cal (mr_last L xs (d + 1) σ n b 3 (-1) (-1) 0 0 h1 (by omega) (Or.inl ⟨by omega, rfl, rfl⟩) (by omega) (by omega) (by omega) (show nI 1 ≤ nI 24 by decide)) rfl (Or.inr rfl) rfl rfl rfl (fun r1 σ1 q1 => ?_)
            obtain ⟨rfl, hnew⟩ := q1
            have hG := mGr_new hnew
            have hr0 := mNw_rit hnew
            have hT1 : mTb σ1 (n + 1) 200 := by
              obtain ⟨_, _, _, _, _, _, q⟩ := hnew
              exact q
            have hk3 : σ1 233 n = nI 3 := by
              obtain ⟨_, _, _, _, _, rfl, _⟩ := hnew
              exact pk_us
            have c := fun c (hc : c ∉ rowC) => hG.1 c hc
            have hv1 : σ1 244 r = nI v := by rw [c 244 (by decide)]; exact hv
            repeat refine kX_one rfl ?_
            refine kX_ialdV rfl rfl (by decide) (r) (by first | rfl | decide) (by omega) (hv1) ?_
            repeat refine kX_one rfl ?_
            refine kX_iastN rfl rfl (by decide) (n) (by first | rfl | decide) (by omega) ?_
            repeat refine kX_one rfl ?_
            refine kX_iastN rfl rfl (by decide) (n) (by first | rfl | decide) (by omega) ?_
            repeat refine kX_one rfl ?_
            refine kX_iastN rfl rfl (by decide) (n) (by first | rfl | decide) (by omega) ?_
            repeat refine kX_one rfl ?_
            refine kX_iastN rfl rfl (by decide) (6 * r + v) (ix6 r v) (by omega) ?_
            repeat refine kX_one rfl ?_
            refine kX_iastN rfl rfl (by decide) (6 * r + v) (ix6 r v) (by omega) ?_
            repeat refine kX_one rfl ?_
            refine kX_ialdV rfl rfl (by decide) (r) (by first | rfl | decide) (by omega) (hv1) ?_
            repeat refine kX_one rfl ?_
            refine kX_iastN rfl rfl (by decide) (r) (by first | rfl | decide) (by omega) ?_
            repeat refine kX_one rfl ?_
            refine kX_st (vaS σ1 n r v (nI so) (nI as)) ?_ ?_
            · rw [vaS, nI_succ v]
              rfl
            have hF' := roF_va σ1 n r v (nI so) (nI as)
            refine kX_ret (i := .ireturn) (len := 1) rfl (Or.inr rfl) rfl (hN r v as so σ1 hr rfl hM hcl hv (by omega) (by omega) ey ez has hso hnew (mI_var h hG hr0 hF' (fun s hs => ?_) (fun t ht => ⟨pk_un (by omega), pk_un (by omega)⟩) hT1 (mTb_va hT1 (by omega)) (mRo_va hT1 (mGr_Ro h1 hG h2) (by omega) hk3 hr hv1 (by omega) hso has h0 h01) (fun r' hr' => ?_)))
            · obtain ⟨r', r1, r2, r3, -⟩ := h3.2.2 s hs
              rw [c 255 (by decide), r2, fN_nI (by omega)]
              have hne : r' ≠ r := fun e => r3 (by rw [e]; exact hcl)
              exact ⟨pk_un hne, rfl, rfl, fun k hk => ⟨pk_un (by omega), pk_un (by omega), rfl, rfl⟩⟩
            · show _ ≤ fN (upd (σ1 244) r (nI (v + 1)) r')
              by_cases e : r' = r
              · subst e
                rw [pk_us, hv1, fN_nI (by omega), fN_nI (by omega)]
                omega
              · rw [pk_un e]
                exact Nat.le_refl _
          · have q : n = 200 := by
              have := qneF q
              rw [h1.2.2.2.1] at this
              exact nI_inj this
            repeat refine kX_one rfl ?_
            refine kX_ret (i := .ireturn) (len := 1) rfl (Or.inr rfl) rfl (hF r hr rfl hM hcl (Or.inr q))
      · have q := qeqF q
        repeat refine kX_one rfl ?_
        refine kX_ret (i := .ireturn) (len := 1) rfl (Or.inr rfl) rfl (hS r hr rfl hM q)
    have k35 : ¬ (y = nI 0 ∧ z = nI 0) → ¬ (y = nI 1 ∧ (z = nI 1 ∨ z = nI 2)) → kX kT L xs (d + 5) 163 35 [(0, .ref 232), (1, .int (nI r)), (2, .int y), (3, .int z)] [] σ Q := by
      intro n0 n1
      repeat refine kX_one rfl ?_
      refine kX_if (fun q => ?_) (fun q => ?_)
      · have q : y ≠ nI 2 := qne q
        repeat refine kX_one rfl ?_
        refine kX_ret (i := .ireturn) (len := 1) rfl (Or.inr rfl) rfl (hO ⟨r, hr, rfl⟩ (fun e => e.elim n0 (fun e => e.elim n1 (fun e => q e.1))))
      · have hy2 : y = nI 2 := qneF q
        repeat refine kX_one rfl ?_
        refine kX_cal (mr_in L xs (d + 4) σ _ _ _) rfl (Or.inr rfl) rfl rfl rfl (fun r1 σ1 q1 => ?_)
        obtain ⟨rfl, rfl⟩ := q1
        rw [isB_dec]
        repeat refine kX_one rfl ?_
        refine kX_if (fun q => ?_) (fun q => ?_)
        · have q := qeq q
          have hz : ¬ isN z 4 := fun ⟨k, k1, k2⟩ => by
            refine isB_ne.mpr ?_ q
            subst k2
            have : k = 0 ∨ k = 1 ∨ k = 2 ∨ k = 3 := by omega
            rcases this with rfl | rfl | rfl | rfl <;> decide
          repeat refine kX_one rfl ?_
          refine kX_ret (i := .ireturn) (len := 1) rfl (Or.inr rfl) rfl (hO ⟨r, hr, rfl⟩ (fun e => e.elim n0 (fun e => e.elim n1 (fun e => hz e.2))))
        · obtain ⟨k, k1, k2, rfl⟩ := in_R (lo := 0) (hi := 3) (by omega) (by omega) (isB_ne.mp (qeqF q)).1 (isB_ne.mp (qeqF q)).2
          subst hy2
          exact key 2 k rfl rfl (by omega) k2 (by omega) (by omega)
    have k18 : ¬ (y = nI 0 ∧ z = nI 0) → kX kT L xs (d + 5) 163 18 [(0, .ref 232), (1, .int (nI r)), (2, .int y), (3, .int z)] [] σ Q := by
      intro n0
      repeat refine kX_one rfl ?_
      refine kX_if (fun q => ?_) (fun q => ?_)
      · exact k35 n0 (fun e => qne q e.1)
      · have hy1 : y = nI 1 := qneF q
        repeat refine kX_one rfl ?_
        refine kX_cal (mr_in L xs (d + 4) σ _ _ _) rfl (Or.inr rfl) rfl rfl rfl (fun r1 σ1 q1 => ?_)
        obtain ⟨rfl, rfl⟩ := q1
        rw [isB_dec]
        repeat refine kX_one rfl ?_
        refine kX_if (fun q => ?_) (fun q => ?_)
        · obtain ⟨k, k1, k2, rfl⟩ := in_R (lo := 1) (hi := 2) (by omega) (by omega) (isB_ne.mp (qne q)).1 (isB_ne.mp (qne q)).2
          subst hy1
          exact key 1 k rfl rfl (by omega) (by omega) (by omega) (by omega)
        · have q := qneF q
          exact k35 n0 (fun e => isB_ne.mpr (by rcases e.2 with rfl | rfl <;> decide) q)
    repeat refine kX_one rfl ?_
    refine kX_if (fun q => ?_) (fun q => ?_)
    · exact k18 (fun e => qne q e.1)
    · obtain rfl : y = nI 0 := qneF q
      repeat refine kX_one rfl ?_
      refine kX_if (fun q => ?_) (fun q => ?_)
      · obtain rfl : z = nI 0 := qeq q
        exact key 0 0 rfl rfl (by omega) (by omega) (by omega) (by omega)
      · exact k18 (fun e => qeqF q e.2)
  · have q := qneF q
    repeat refine kX_one rfl ?_
    refine kX_ret (i := .ireturn) (len := 1) rfl (Or.inr rfl) rfl (hU (fun e => isB_ne.mpr e q))
set_option maxRecDepth 100000 in
set_option maxHeartbeats 4000000 in
theorem mf_maySort (L : Nat) (xs : Nat → Int32) (d : Nat) (σ : kS) (x y : Int32) : kXM kT L xs (d + 1) 141 [.int x, .int y] σ (fun r σ' => r = some (.int (isB (mayS x y))) ∧ σ = σ') := by
  unfold kXM
  by_cases hy : ∃ k, k < 3 ∧ x = nI k
  · obtain ⟨k, hk, rfl⟩ := hy
    have : k = 0 ∨ k = 1 ∨ k = 2 := by omega
    rcases this with rfl | rfl | rfl
    · have no1 : nI 0 ≠ nI 1 := by decide
      have no2 : nI 0 ≠ nI 2 := by decide
      repeat refine kX_one rfl ?_
      refine kX_if (fun q => ?_) (fun q => ?_)
      · have q : y ≠ nI 0 := qne q
        repeat refine kX_one rfl ?_
        refine kX_ret (i := .ireturn) (len := 1) rfl (Or.inr rfl) rfl (⟨rF (fun e => e.elim (fun e => q e.2) (fun e => e.elim (fun e => no1 e.1) (fun e => no2 e.1))), rfl⟩)
      · have q : y = nI 0 := qneF q
        repeat refine kX_one rfl ?_
        refine kX_ret (i := .ireturn) (len := 1) rfl (Or.inr rfl) rfl (⟨rT (Or.inl ⟨rfl, q⟩), rfl⟩)
    · have no0 : nI 1 ≠ nI 0 := by decide
      have no2 : nI 1 ≠ nI 2 := by decide
      repeat refine kX_one rfl ?_
      refine kX_if (fun q => ?_) (fun q => ?_)
      · have q : y = nI 1 := qeq q
        repeat refine kX_one rfl ?_
        refine kX_ret (i := .ireturn) (len := 1) rfl (Or.inr rfl) rfl (⟨rT (Or.inr (Or.inl ⟨rfl, Or.inl q⟩)), rfl⟩)
      · have q : y ≠ nI 1 := qeqF q
        repeat refine kX_one rfl ?_
        refine kX_if (fun q2 => ?_) (fun q2 => ?_)
        · have q2 : y ≠ nI 2 := qne q2
          repeat refine kX_one rfl ?_
          refine kX_ret (i := .ireturn) (len := 1) rfl (Or.inr rfl) rfl (⟨rF (fun e => e.elim (fun e => no0 e.1) (fun e => e.elim (fun e => e.2.elim q q2) (fun e => no2 e.1))), rfl⟩)
        · have q2 : y = nI 2 := qneF q2
          repeat refine kX_one rfl ?_
          refine kX_ret (i := .ireturn) (len := 1) rfl (Or.inr rfl) rfl (⟨rT (Or.inr (Or.inl ⟨rfl, Or.inr q2⟩)), rfl⟩)
    · have no0 : nI 2 ≠ nI 0 := by decide
      have no1 : nI 2 ≠ nI 1 := by decide
      repeat refine kX_one rfl ?_
      refine kX_if (fun q => ?_) (fun q => ?_)
      · have q : y < 0 := of_decide_eq_true q
        repeat refine kX_one rfl ?_
        refine kX_ret (i := .ireturn) (len := 1) rfl (Or.inr rfl) rfl (⟨rF (fun e => e.elim (fun e => no0 e.1) (fun e => e.elim (fun e => no1 e.1) (fun ⟨_, j, j1, j2⟩ => nI_pos (show j < 2147483648 by omega) (by rw [← j2]; exact q)))), rfl⟩)
      · have q : ¬ y < 0 := of_decide_eq_false q
        obtain ⟨so, hso, rfl⟩ := nI_of q
        repeat refine kX_one rfl ?_
        refine kX_if (fun q2 => ?_) (fun q2 => ?_)
        · have q2 := qgt q2 so 3
          repeat refine kX_one rfl ?_
          refine kX_ret (i := .ireturn) (len := 1) rfl (Or.inr rfl) rfl (⟨rF (fun e => e.elim (fun e => no0 e.1) (fun e => e.elim (fun e => no1 e.1) (fun ⟨_, j, j1, j2⟩ => by have := nI_inj j2; omega))), rfl⟩)
        · have q2 := qgtF q2 so 3
          repeat refine kX_one rfl ?_
          refine kX_ret (i := .ireturn) (len := 1) rfl (Or.inr rfl) rfl (⟨rT (Or.inr (Or.inr ⟨rfl, so, by omega, rfl⟩)), rfl⟩)
  · have n0 : ∀ k, k < 3 → x ≠ nI k := fun k hk e => hy ⟨k, hk, e⟩
    iterate 1 (refine kX_one rfl ?_)
    refine kX_tabO rfl (kp_out 3 (fun k hk e => hy ⟨k, hk, e⟩) (by decide)) rfl ?_
    repeat refine kX_one rfl ?_
    refine kX_ret (i := .ireturn) (len := 1) rfl (Or.inr rfl) rfl (⟨rF (fun e => e.elim (fun e => n0 0 (by decide) e.1) (fun e => e.elim (fun e => n0 1 (by decide) e.1) (fun e => n0 2 (by decide) e.1))), rfl⟩)
