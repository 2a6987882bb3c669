/-! alike: makes -/
/-- a row of trees makes g -/
def trM (σ : kS) (tr : trT) (g : Jvm.Term) : Prop := vmk (trI tr) (mA σ) (σ 238) g
theorem mMk_tr {σ τ : kS} {n b t : Nat} {l : rwT} (h : mTb σ n b) (hF : mFr σ τ n) (ht : t < n) : mMk τ l t ↔ (tgd (σ 233) (σ 234) (σ 235) t = true ∧ trM σ (rwM τ l) (tvl (σ 233) (σ 234) (σ 235) t)) := by
  unfold mMk trM
  obtain ⟨e1, e2, -⟩ := mFr_all h hF ht
  rw [e1, e2, rwM_I, mFr_A hF, hF.1 238 (by decide)]
theorem kMk_tr {σ τ : kS} {n b u m t : Nat} {l : rwT} {tr : trT} (hT : mTb σ n b) (hQ : inQ σ τ n u m l tr) (ht : t < n) : kMk τ l t ↔ trM σ tr (tvl (σ 233) (σ 234) (σ 235) t) := by
  unfold kMk trM
  have e : ∀ c, 232 ≤ c → τ c = σ c := fun c hc => inQ_cell hQ (by omega) (by omega) (by omega) (by omega)
  have hT2 : mTb τ n b := by
    unfold mTb mAG mpt at hT ⊢
    simp only [e 232 (by decide), e 233 (by decide), e 234 (by decide), e 235 (by decide), e 236 (by decide), e 237 (by decide), e 240 (by decide), e 242 (by decide), e 243 (by decide)]
    exact hT
  have e2 : mA τ = mA σ := by
    unfold mA
    rw [e 233 (by decide)]
  rw [aT_tv hT2 hQ.2.2.2.1.2.2.2.1 ht, e2, ← kTr_I, hQ.2.2.2.2.2.2.2, e 233 (by decide), e 234 (by decide), e 235 (by decide), e 238 (by decide)]
set_option maxRecDepth 100000 in
set_option maxHeartbeats 4000000 in
theorem mg_makes (L : Nat) (xs : Nat → Int32) (d : Nat) (σ : kS) (n b R S C : Nat) (kl : List Nat) (x : Int32) (Q : Option Value → kS → Prop) (h : mI σ n b R S C kl) (hN : ¬ isN x n → Q (some (.int (-1))) σ) (hS : isN x n → σ 232 52 = 0 → Q (some (.int (-3))) σ) (hG : ∀ t, t < n → x = nI t → σ 232 52 = 1 → tgd (σ 233) (σ 234) (σ 235) t = false → Q (some (.int (-5))) σ)
    (hM : ∀ t ds b' σ', t < n → x = nI t → σ 232 52 = 1 → tgd (σ 233) (σ 234) (σ 235) t = true → mRn σ n R S ds → mFr σ σ' n → mI σ' n b' R S C kl → Q (some (.int (isB (trM σ (trRun σ kl ds) (tvl (σ 233) (σ 234) (σ 235) t))))) σ') : kXM kT L xs (d + 8) 198 [.ref 232, .int x] σ Q := by
  have h0 := h
  obtain ⟨h1, h2, h3, h4, h5, h6, h7⟩ := h
  have hn := h1.1
  unfold kXM
  repeat refine kX_one rfl ?_
  refine kX_cal (mr_isTerm L xs (d + 6) σ n x h1.2.2.2.1 (by omega)) rfl (Or.inr rfl) rfl rfl rfl (fun r1 σ1 q1 => ?_)
  obtain ⟨rfl, rfl⟩ := q1
  repeat refine kX_one rfl ?_
  refine kX_if (fun q => ?_) (fun q => ?_)
  · obtain ⟨t, ht, rfl⟩ := isB_ne.mp (qne q)
    rcases h6 with h6 | ⟨h6, ds, g1, g2, g3⟩
    · iterate 2 (refine kX_one rfl ?_)
      refine kX_top (h6) ?_
      repeat refine kX_one rfl ?_
      refine kX_ret (i := .ireturn) (len := 1) rfl (Or.inr rfl) rfl (hS ⟨t, ht, rfl⟩ h6)
    · iterate 2 (refine kX_one rfl ?_)
      refine kX_top (h6) ?_
      repeat refine kX_one rfl ?_
      refine kX_baldV rfl rfl (by decide) (t) (by first | rfl | decide) (by omega) (h1.2.2.2.2.2.2.1 t (Or.inl ht)) ?_
      repeat refine kX_one rfl ?_
      refine kX_if (fun q2 => ?_) (fun q2 => ?_)
      · have q2 : tgd (σ 233) (σ 234) (σ 235) t = true := (bI_ne _).mp (qne q2)
        repeat refine kX_one rfl ?_
        refine kX_cal (mr_row L xs d σ n b R S C kl ds h0 h6 g1 g2 g3) rfl (Or.inr rfl) rfl rfl rfl (fun r1 σ1 q1 => ?_)
        obtain ⟨rfl, f1, f2, b', l, f3, f4, f5, f6, f7⟩ := q1
        repeat refine kX_one rfl ?_
        refine kX_cal (mr_canMake L xs (d + 3) σ1 n b' l t f4 f5 f6 (Or.inl ht)) rfl (Or.inr rfl) rfl rfl rfl (fun r1 σ2 q1 => ?_)
        obtain ⟨rfl, M, rfl, f8⟩ := q1
        have hF2 : mFr σ (cmS σ1 M (upd (upd (σ1 232) 49 (nI b')) 50 (nI l.length))) n := mFr_trans f1 (mFr_rwF rwF_cmS)
        have fin := (mI_there h0 h6 g1 g2 hF2 f2 f3 f4 f5 f8 f7).1
        have key := hM t ds b' _ ht rfl h6 q2 g1 hF2 fin
        have hk := mMk_tr (l := l) h1 f1 ht
        rw [f7] at hk
        repeat refine kX_one rfl ?_
        refine kX_if (fun q3 => ?_) (fun q3 => ?_)
        · have q3 : ¬ mMk σ1 l t := fun z => isB_ne.mpr z (qeq q3)
          rw [isB_F (fun z => q3 (hk.mpr ⟨q2, z⟩))] at key
          repeat refine kX_one rfl ?_
          refine kX_ret (i := .ireturn) (len := 1) rfl (Or.inr rfl) rfl (key)
        · have q3 : mMk σ1 l t := isB_ne.mp (qeqF q3)
          rw [isB_T (hk.mp q3).2] at key
          repeat refine kX_one rfl ?_
          refine kX_ret (i := .ireturn) (len := 1) rfl (Or.inr rfl) rfl (key)
      · have q2 : tgd (σ 233) (σ 234) (σ 235) t = false := (bI_eq _).mp (qneF q2)
        repeat refine kX_one rfl ?_
        refine kX_ret (i := .ireturn) (len := 1) rfl (Or.inr rfl) rfl (hG t ht rfl h6 q2)
  · have q : ¬ isN x n := fun z => isB_ne.mpr z (qneF q)
    repeat refine kX_one rfl ?_
    refine kX_ret (i := .ireturn) (len := 1) rfl (Or.inr rfl) rfl (hN q)
/-- a RUN runs: its EVENTS -/
theorem mI_ds {σ : kS} {n b R S C : Nat} {kl : List Nat} (h : mI σ n b R S C kl) (hr : σ 232 52 ≠ 0) : σ 232 52 = 1 ∧ ∃ ds, mRn σ n R S ds ∧ mBi σ ds ∧ mRt σ n b kl ds := by
  rcases h.2.2.2.2.2.1 with h6 | h6
  · exact absurd h6 hr
  · exact h6
theorem mRn_u {σ : kS} {n R S : Nat} {ds ds' : List Nat} (hR : mRo σ n R) (hS4 : S ≤ 4) (h : mRn σ n R S ds) (h' : mRn σ n R S ds') : ds = ds' :=
  lst_inj (mRn_len hR hS4 h) (mRn_len hR hS4 h') (fun s hs => by have := h.2.2.1 s hs; omega) (fun s hs => by have := h'.2.2.1 s hs; omega) (h.1.symm.trans h'.1) h.2.1 h'.2.1
theorem mRn_hi {σ τ : kS} {n R S : Nat} {ds : List Nat} (e : ∀ c, 232 ≤ c → τ c = σ c) (h : mRn σ n R S ds) : mRn τ n R S ds := by
  unfold mRn mSn mVk mSt at h ⊢
  simp only [e 232 (by decide), e 274 (by decide), e 255 (by decide), e 264 (by decide), e 247 (by decide), e 265 (by decide), e 244 (by decide), e 246 (by decide), e 233 (by decide), e 234 (by decide), e 235 (by decide), e 240 (by decide), e 245 (by decide), e 248 (by decide), e 241 (by decide), e 249 (by decide)]
  exact h
set_option maxRecDepth 100000 in
set_option maxHeartbeats 4000000 in
theorem bo_makes (L : Nat) (xs : Nat → Int32) (d d' m : Nat) (σ : kS) (x : Int32) (hm : m < 2147483646) (h : bJ m σ) : kXM kT L xs (d + 56) 126 [.ref 0, .int x] σ (fun r τ => ∃ z, r = some (.int z) ∧ kXM kT L xs (d' + 8) 198 [.ref 232, .int x] τ (fun r' ω => r' = some (.int z) ∧ bJ (m + 1) ω)) := by
  have hb := bJ_up (Nat.le_succ m) h
  obtain ⟨n, b, R, S, C, kl, h⟩ := h
  have hcT := h.2.1.1
  have hT := h.1.1
  have hn := hcT.1
  have hU := h.2.2.2.2.2.2.2.1
  have hgr := aT_gR hT h.2.2.1.1
  unfold kXM
  iterate 3 (refine kX_one rfl ?_)
  refine kX_cal (mc_has L xs (d + 54) σ n x hn hcT.2.1) rfl (Or.inr rfl) rfl rfl rfl (fun r1 σ1 q1 => ?_)
  obtain ⟨rfl, rfl⟩ := q1
  repeat refine kX_one rfl ?_
  refine kX_if (fun q => ?_) (fun q => ?_)
  · have q := isB_ne.mp (qne q)
    obtain ⟨t, ht, rfl⟩ := q
    repeat refine kX_one rfl ?_
    refine kX_if (fun q2 => ?_) (fun q2 => ?_)
    · have hon : σ 181 8 ≠ 0 := qne q2
      have hr0 : σ 232 52 ≠ 0 := hU.1.mp hon
      obtain ⟨hr1, ds, hD, -⟩ := mI_ds h.1 hr0
      iterate 4 (refine kX_one rfl ?_)
      refine kX_baldV rfl rfl (by decide) (t) (by first | rfl | decide) (by omega) (hgr t ht) ?_
      repeat refine kX_one rfl ?_
      refine kX_if (fun q3 => ?_) (fun q3 => ?_)
      · have q3 : ¬ kGd σ t := fun z => isB_ne.mpr z (qeq q3)
        have hgf : tgd (σ 233) (σ 234) (σ 235) t = false := by
          unfold kGd at q3
          rw [aT_gd hT h.2.2.1.1 ht] at q3
          exact Bool.eq_false_iff.mpr q3
        repeat refine kX_one rfl ?_
        refine kX_ret (i := .ireturn) (len := 1) rfl (Or.inr rfl) rfl (⟨_, rfl, ?_⟩)
        refine mg_makes L xs d' σ n b R S C kl _ _ h.1 (fun z => absurd ⟨t, ht, rfl⟩ z) (fun _ z => absurd z hr0) (fun _ _ _ _ _ => ⟨rfl, hb⟩) (fun t' _ _ _ ht' et _ z _ _ _ => ?_)
        obtain rfl : t = t' := nI_inj et
        rw [hgf] at z
        exact absurd z (by decide)
      · have q3 : kGd σ t := isB_ne.mp (qeqF q3)
        have hgt : tgd (σ 233) (σ 234) (σ 235) t = true := by
          rw [← aT_gd hT h.2.2.1.1 ht]
          exact q3
        iterate 2 (refine kX_one rfl ?_)
        refine kX_cal (mf_intruder L xs d σ σ n b R S C m kl ds (vw_refl σ) h hm hr0 hD) rfl (Or.inr rfl) rfl rfl rfl (fun r1 τ q1 => ?_)
        obtain ⟨rfl, u, m', l, hm', hQ⟩ := q1
        have hE := hQ.2.2.2.1
        have hct : ∀ z, z < n → τ 2 z = σ 2 z ∧ τ 3 z = σ 3 z ∧ τ 4 z = σ 4 z := fun z hz => by
          obtain ⟨a, b, c, -⟩ := hQ.1.1.2 z (by omega)
          exact ⟨a, b, c⟩
        have hgd : kGd τ t := by
          have := aT_gR hT h.2.2.1.1 t ht
          have h2 := hQ.2.2.2.2.2.1 t ht
          rw [inQ_cell hQ (c := 8) (by decide) (by decide) (by decide) (by decide), this] at h2
          rw [isB_T q3] at h2
          exact isB_1.mp h2.symm
        iterate 2 (refine kX_one rfl ?_)
        refine kX_cal (mf_canMake L xs 186 200 n u m' l 49 (d + 4) 0 τ t rfl (by have := hE.2.2.2.2.2.2.2.2.1 t ht; omega) hE (Or.inl ht) hgd) rfl (Or.inr rfl) rfl rfl rfl (fun r1 ω q1 => ?_)
        obtain ⟨rfl, M, rfl, hE2⟩ := q1
        have hQ2 := inQ_mk hQ hE2
        have hJ2 := inQ_J h hr0 hD hQ2 hm'
        have e : ∀ c, 232 ≤ c → va_up τ 192 M c = σ c := fun c hc => inQ_cell hQ2 (by omega) (by omega) (by omega) (by omega)
        have hkk := kMk_tr hT hQ ht
        have fin : kXM kT L xs (d' + 8) 198 [.ref 232, .int (nI t)] (va_up τ 192 M) (fun r' ω => r' = some (.int (isB (isB (kMk τ l t) ≠ 0))) ∧ bJ (m + 1) ω) := by
          refine mg_makes L xs d' _ n b R S C kl _ _ hJ2.1 (fun z => absurd ⟨t, ht, rfl⟩ z) (fun _ z => absurd ((congrFun (e 232 (by decide)) _).symm.trans z) hr0) (fun t' ht' et _ z => ?_) (fun t' ds' b' ω ht' et _ z hD' hF hI => ?_)
          · obtain rfl : t = t' := nI_inj et
            rw [e 233 (by decide), e 234 (by decide), e 235 (by decide), hgt] at z
            exact absurd z (by decide)
          · obtain rfl : t = t' := nI_inj et
            obtain rfl : ds = ds' := mRn_u hJ2.1.2.1 hJ2.1.2.2.1.1 (mRn_hi e hD) hD'
            refine ⟨?_, bJ_fr hJ2 (mLow_fr hF) hF hI⟩
            rw [isB_iff (isB_ne.trans hkk)]
            have e1 : trRun (va_up τ 192 M) kl ds = trRun σ kl ds := trRun_hi e
            unfold trM mA
            rw [e1, e 233 (by decide), e 234 (by decide), e 235 (by decide), e 238 (by decide)]
        refine kX_cal (mc_asNumber L xs (d + 54) (va_up τ 192 M) _) rfl (Or.inr rfl) rfl rfl rfl (fun r1 σ1 q1 => ?_)
        obtain ⟨rfl, rfl⟩ := q1
        repeat refine kX_one rfl ?_
        refine kX_ret (i := .ireturn) (len := 1) rfl (Or.inr rfl) rfl (⟨_, rfl, fin⟩)
    · have q2 : σ 181 8 = 0 := qneF q2
      have hr0 : σ 232 52 = 0 := Classical.byContradiction fun z => hU.1.mpr z q2
      repeat refine kX_one rfl ?_
      refine kX_ret (i := .ireturn) (len := 1) rfl (Or.inr rfl) rfl (⟨_, rfl, ?_⟩)
      exact mg_makes L xs d' σ n b R S C kl _ _ h.1 (fun z => absurd ⟨t, ht, rfl⟩ z) (fun _ _ => ⟨rfl, hb⟩) (fun _ _ _ z _ => absurd (z.symm.trans hr0) (by decide)) (fun _ _ _ _ _ _ z _ _ _ _ => absurd (z.symm.trans hr0) (by decide))
  · have q : ¬ isN x n := fun z => isB_ne.mpr z (qneF q)
    repeat refine kX_one rfl ?_
    refine kX_ret (i := .ireturn) (len := 1) rfl (Or.inr rfl) rfl (⟨_, rfl, ?_⟩)
    exact mg_makes L xs d' σ n b R S C kl _ _ h.1 (fun _ => ⟨rfl, hb⟩) (fun z => absurd z q) (fun t ht et _ _ => absurd ⟨t, ht, et⟩ q) (fun t _ _ _ ht et _ _ _ _ _ => absurd ⟨t, ht, et⟩ q)
