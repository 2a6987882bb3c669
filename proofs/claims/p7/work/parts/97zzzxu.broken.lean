/-! alike: broken -/
theorem mBt_hi {σ τ : kS} {tr : trT} {c S : Nat} (h : ∀ c, 232 ≤ c → τ c = σ c) : mBt τ tr c S = mBt σ tr c S := by
  have e := eqC_of h [255, 258, 259, 260, 264, 247, 265, 238, 246, 244, 257, 261, 262, 263, 233, 234, 235] (by decide)
  have hmH : mHo τ = mHo σ := by
    funext s
    unfold mHo
    rw [e 244 (by decide), e 255 (by decide), e 246 (by decide), e 238 (by decide), e 265 (by decide)]
  have hmW : mWt τ c = mWt σ c := by
    funext s
    unfold mWt
    rw [hmH, e 255 (by decide), e 258 (by decide), e 264 (by decide), e 247 (by decide)]
  have hmF : mFit τ c = mFit σ c := by
    funext s o
    unfold mFit mJn
    rw [e 255 (by decide), e 259 (by decide), e 260 (by decide), e 264 (by decide), e 265 (by decide), e 261 (by decide), e 263 (by decide), e 262 (by decide)]
  unfold mBt trM mA
  rw [hmH, hmW, hmF, e 255 (by decide), e 258 (by decide), e 259 (by decide), e 265 (by decide), e 257 (by decide), e 233 (by decide), e 234 (by decide), e 235 (by decide), e 238 (by decide)]
/-- HONEST at first and in the RUN -/
theorem aU_ho {σ : kS} {n b R S C m : Nat} {kl : List Nat} (h : aJ σ n b R S C kl m) (hr0 : σ 232 52 ≠ 0) : ∀ s, s < S → (mHo σ s ↔ hoF σ s) := by
  intro s hs
  obtain ⟨-, -, uv, uo, -⟩ := h.2.2.2.2.2.2.2.1.2 hr0
  obtain ⟨r, r1, r2, -, e3⟩ := h.1.2.2.1.2.2 s hs
  have hR4 := h.1.2.1.1
  have hn := h.1.1.1
  have hfr : fN (σ 255 s) = r := by rw [r2]; exact fN_nI (by omega)
  obtain ⟨⟨v, v6, v2⟩, -⟩ := h.1.2.1.2.2.1 r r1
  have hfv : fN (σ 244 r) = v := by rw [v2]; exact fN_nI (by omega)
  have key : ∀ k, k < fN (σ 244 r) → σ 246 (6 * r + k) = 0 → σ 265 (6 * s + k) = σ 256 (6 * s + k) := fun k hk h0 => by
    have hk6 : k < 6 := by omega
    obtain ⟨as, a1, a2⟩ := e3 k hk
    have ha := (h.2.2.2.2.1 s hs).2.2.1 k hk6
    rw [hfr, if_pos hk] at ha
    rcases a2 with ⟨a2, -⟩ | ⟨a2, z, z1, z2, -⟩
    · subst a2
      rw [a1] at h0
      exact absurd h0 (by decide)
    · rw [z2] at ha ⊢
      have hop : σ 17 (7 * s + 1 + k) = nI z := by
        unfold nnI at ha
        split at ha
        · exact absurd (show nI z < 0 by rw [← ha]; decide) (nI_pos (by omega))
        · exact ha
      have hat := uo s hs k hk6 (by rw [hop]; exact nI_m1 (by omega))
      have := (uv s hs).2 k hk6
      rw [hat, hop, nnI_nI (by omega)] at this
      exact this.symm
  unfold mHo hoF
  rw [hfr]
  exact forall_congr' (fun k => forall_congr' (fun hk => forall_congr' (fun h0 => by rw [key k hk h0])))
set_option maxRecDepth 100000 in
set_option maxHeartbeats 4000000 in
theorem mg_broken (L : Nat) (xs : Nat → Int32) (d : Nat) (σ : kS) (n b R S C : Nat) (kl : List Nat) (x : Int32) (Q : Option Value → kS → Prop) (h : mI σ n b R S C kl) (hN : ¬ isN x C → Q (some (.int (-1))) σ) (hS : isN x C → σ 232 52 = 0 → Q (some (.int (-3))) σ)
    (hM : ∀ c ds b' σ', c < C → x = nI c → σ 232 52 = 1 → mRn σ n R S ds → mFr σ σ' n → mI σ' n b' R S C kl → Q (some (.int (isB (mBt σ (trRun σ kl ds) c S)))) σ') : kXM kT L xs (d + 8) 207 [.ref 232, .int x] σ Q := by
  have h0 := h
  obtain ⟨h1, h2, h3, h4, h5, h6, h7⟩ := h
  have hC6 := h5.1
  unfold kXM
  repeat refine kX_one rfl ?_
  refine kX_cal (mr_in L xs (d + 7) σ _ _ _) rfl (Or.inr rfl) rfl rfl rfl (fun r1 σ1 q1 => ?_)
  obtain ⟨rfl, rfl⟩ := q1
  repeat refine kX_one rfl ?_
  refine kX_if (fun q => ?_) (fun q => ?_)
  · have q := (bI_ne _).mp (qne q)
    have q := of_decide_eq_true q
    obtain ⟨c, hc, rfl⟩ : isN x C := (in_N (by omega)).mp (by rw [← h5.2.1]; exact q)
    rcases h6 with h6 | ⟨h6, ds, g1, g2, g3⟩
    · iterate 2 (refine kX_one rfl ?_)
      refine kX_top (h6) ?_
      repeat refine kX_one rfl ?_
      refine kX_ret (i := .ireturn) (len := 1) rfl (Or.inr rfl) rfl (hS ⟨c, hc, rfl⟩ h6)
    · iterate 2 (refine kX_one rfl ?_)
      refine kX_top (h6) ?_
      repeat refine kX_one rfl ?_
      refine kX_cal (mr_row L xs d σ n b R S C kl ds h0 h6 g1 g2 g3) rfl (Or.inr rfl) rfl rfl rfl (fun r1 σ1 q1 => ?_)
      obtain ⟨rfl, f1, f2, b', l, f3, f4, f5, f6, f7⟩ := q1
      have hI1 := mI_there h0 h6 g1 g2 f1 f2 f3 f4 f5 f6 f7
      have hbk := mBk_tr (l := l) h1 f1 h2 h5 hc h3.1 (mRn_Sv h2 h3.2.1 g1)
      rw [f7] at hbk
      repeat refine kX_one rfl ?_
      refine kX_cal (mr_isBroken L xs (d + 1) σ1 n b' R S C c l f4 hI1.1.2.1 h3.1 (mRn_Sv hI1.1.2.1 hI1.1.2.2.1.2.1 hI1.2.1) hI1.1.2.2.2.2.1 hc f5 f6) rfl (Or.inr rfl) rfl rfl rfl (fun r1 σ2 q1 => ?_)
      obtain ⟨rfl, k1, k2⟩ := q1
      have hF2 := mFr_trans f1 k1.1
      have fin := (mI_there h0 h6 g1 g2 hF2 ((k2 _ (by decide) (by decide) (by decide)).trans f2) f3 k1.2.1 k1.2.2.1 k1.2.2.2.1 (by rw [k1.2.2.2.2]; exact f7)).1
      have key := hM c ds b' σ2 hc rfl h6 g1 hF2 fin
      repeat refine kX_one rfl ?_
      refine kX_if (fun q3 => ?_) (fun q3 => ?_)
      · have q3 : ¬ mBk σ1 l c S := fun z => isB_ne.mpr z (qeq q3)
        rw [isB_F (fun z => q3 (hbk.mpr z))] at key
        repeat refine kX_one rfl ?_
        refine kX_ret (i := .ireturn) (len := 1) rfl (Or.inr rfl) rfl (key)
      · have q3 : mBk σ1 l c S := isB_ne.mp (qeqF q3)
        rw [isB_T (hbk.mp q3)] at key
        repeat refine kX_one rfl ?_
        refine kX_ret (i := .ireturn) (len := 1) rfl (Or.inr rfl) rfl (key)
  · have q : ¬ isN x C := fun z => by
      have := (in_N (by omega)).mpr z
      rw [← h5.2.1] at this
      exact (bI_ne _).mpr (decide_eq_true this) (qneF q)
    repeat refine kX_one rfl ?_
    refine kX_ret (i := .ireturn) (len := 1) rfl (Or.inr rfl) rfl (hN q)
set_option maxRecDepth 100000 in
set_option maxHeartbeats 4000000 in
theorem bo_broken (L : Nat) (xs : Nat → Int32) (d d' m : Nat) (σ : kS) (x : Int32) (hm : m < 2147483646) (h : bJ m σ) : kXM kT L xs (d + 56) 130 [.ref 0, .int x] σ (fun r τ => ∃ z, r = some (.int z) ∧ kXM kT L xs (d' + 8) 207 [.ref 232, .int x] τ (fun r' ω => r' = some (.int z) ∧ bJ (m + 1) ω)) := by
  have hb := bJ_up (Nat.le_succ m) h
  obtain ⟨n, b, R, S, C, kl, h⟩ := h
  have hcl := h.2.1.2.2.2.1
  have hU := h.2.2.2.2.2.2.2.1
  have hT := h.1.1
  have hn := hT.1
  unfold kXM
  iterate 3 (refine kX_one rfl ?_)
  refine kX_cal (mc_hasClaim L xs (d + 54) σ C x hcl.1 hcl.2.1) rfl (Or.inr rfl) rfl rfl rfl (fun r1 σ1 q1 => ?_)
  obtain ⟨rfl, rfl⟩ := q1
  repeat refine kX_one rfl ?_
  refine kX_if (fun q => ?_) (fun q => ?_)
  · obtain ⟨c, hc, rfl⟩ := isB_ne.mp (qne q)
    repeat refine kX_one rfl ?_
    refine kX_if (fun q2 => ?_) (fun q2 => ?_)
    · have q2 : σ 181 8 = 0 := qeq q2
      have hr0 : σ 232 52 = 0 := Classical.byContradiction fun z => hU.1.mpr z q2
      repeat refine kX_one rfl ?_
      refine kX_ret (i := .ireturn) (len := 1) rfl (Or.inr rfl) rfl (⟨_, rfl, ?_⟩)
      exact mg_broken L xs d' σ n b R S C kl _ _ h.1 (fun z => absurd ⟨c, hc, rfl⟩ z) (fun _ _ => ⟨rfl, hb⟩) (fun _ _ _ _ _ _ z _ _ _ => absurd (z.symm.trans hr0) (by decide))
    · have hon : σ 181 8 ≠ 0 := qeqF q2
      have hr0 : σ 232 52 ≠ 0 := hU.1.mp hon
      obtain ⟨hr1, ds, hD, -⟩ := mI_ds h.1 hr0
      iterate 9 (refine kX_one rfl ?_)
      refine kX_cal (mf_intruder L xs d σ σ n b R S C m kl ds (vw_refl σ) h hm hr0 hD) rfl (Or.inr rfl) rfl rfl rfl (fun r1 τ q1 => ?_)
      obtain ⟨rfl, u, m', l, hm', hQ⟩ := q1
      have hJ2 := inQ_J h hr0 hD hQ hm'
      have hE := hQ.2.2.2.1
      have e0 : ∀ c, 232 ≤ c → τ c = σ c := fun c hc => inQ_cell hQ (by omega) (by omega) (by omega) (by omega)
      have hr2 : τ 232 52 ≠ 0 := by rw [e0 232 (by decide)]; exact hr0
      have hV : ∀ s k, s < S → k < 6 → τ 182 (0 + 7 * s + 1 + k) = -1 ∨ ∃ z, z < n ∧ τ 182 (0 + 7 * s + 1 + k) = nI z ∧ kGd τ z := fun s k hs hk => by
        rcases hJ2.2.1.2.2.2.2.2.2.2.2.1 with z | ⟨-, -, hcV, -⟩
        · exact absurd z (fun z => hJ2.2.2.2.2.2.2.2.1.1.mpr hr2 z)
        · rcases hcV s k hs hk with q | ⟨z, z1, z2, z3⟩
          · exact Or.inl q
          · refine Or.inr ⟨z, z1, z2, ?_⟩
            have := hQ.2.2.2.2.2.1 z z1
            rw [z3] at this
            exact isB_1.mp this.symm
      refine kX_cal (mf_breaks L xs (d + 1) τ n R S C 182 28 0 c 186 200 u m' l (fun _ => 0) (cB_of hJ2.2.1) hc rfl (by decide) (by decide) (by decide) hE hV) rfl (Or.inr rfl) rfl rfl rfl (fun r1 ω q1 => ?_)
      obtain ⟨rfl, M, rfl, hE2⟩ := q1
      have hQ2 := inQ_mk hQ hE2
      have hJ3 := inQ_J h hr0 hD hQ2 hm'
      have e : ∀ c, 232 ≤ c → va_up τ 192 M c = σ c := fun c hc => inQ_cell hQ2 (by omega) (by omega) (by omega) (by omega)
      have hst : staV τ 182 0 S := fun s hs => by
        have := (hJ2.2.2.2.2.2.2.2.1.2 hr2).2.2.1 s hs
        rw [Nat.zero_add]
        exact this
      have hkk := cBk_tr hJ2.1.1 hJ2.1.2.1 hJ2.1.2.2.1 hJ2.1.2.2.2.2.1 hc (mRn_Sv hJ2.1.2.1 hJ2.1.2.2.1.2.1 (mRn_hi e0 hD)) hJ2.2.2.2.1 hJ2.2.2.2.2.1 hJ2.2.2.2.2.2.1 hJ2.2.2.1.1 hst hV (aU_ho hJ2 hr2) hE
      rw [hQ.2.2.2.2.2.2.2, mBt_hi e0] at hkk
      have fin : kXM kT L xs (d' + 8) 207 [.ref 232, .int (nI c)] (va_up τ 192 M) (fun r' ω => r' = some (.int (isB (isB (cBk τ 182 0 c n S l) ≠ 0))) ∧ bJ (m + 1) ω) := by
        refine mg_broken L xs d' _ n b R S C kl _ _ hJ3.1 (fun z => absurd ⟨c, hc, rfl⟩ z) (fun _ z => absurd ((congrFun (e 232 (by decide)) _).symm.trans z) hr0) (fun c' ds' b' ω hc' et _ hD' hF hI => ?_)
        have hC6 := hcl.1
        obtain rfl : c = c' := nI_inj et
        obtain rfl : ds = ds' := mRn_u hJ3.1.2.1 hJ3.1.2.2.1.1 (mRn_hi e hD) hD'
        refine ⟨?_, bJ_fr hJ3 (mLow_fr hF) hF hI⟩
        rw [isB_iff (isB_ne.trans hkk), trRun_hi e, mBt_hi e]
      refine kX_cal (mc_asNumber L xs (d + 54) (va_up τ 192 M) _) rfl (Or.inr rfl) rfl rfl rfl (fun r1 σ1 q1 => ?_)
      obtain ⟨rfl, rfl⟩ := q1
      repeat refine kX_one rfl ?_
      refine kX_ret (i := .ireturn) (len := 1) rfl (Or.inr rfl) rfl (⟨_, rfl, fin⟩)
  · have q : ¬ isN x C := fun z => isB_ne.mpr z (qneF q)
    repeat refine kX_one rfl ?_
    refine kX_ret (i := .ireturn) (len := 1) rfl (Or.inr rfl) rfl (⟨_, rfl, ?_⟩)
    exact mg_broken L xs d' σ n b R S C kl _ _ h.1 (fun _ => ⟨rfl, hb⟩) (fun z => absurd z q) (fun c _ _ _ hc ec _ _ _ _ => absurd ⟨c, hc, ec⟩ q)
