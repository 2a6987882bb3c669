/-! alike: calls about TERMS -/
theorem aJ_hi {σ τ : kS} {n b R S C m : Nat} {kl : List Nat} (h : aJ σ n b R S C kl m) (e : ∀ c, 232 ≤ c → τ c = σ c) : mI τ n b R S C kl := mI_hi e h.1
set_option maxRecDepth 100000 in
set_option maxHeartbeats 4000000 in
theorem bo_comp (L : Nat) (xs : Nat → Int32) (d d' : Nat) (σ : kS) (n b R S C m k x y : Nat) (kl : List Nat) (a c : Int32) (h : aJ σ n b R S C kl m) (hk : 3 < k) (hw : tNw k a c x y n) (h6 : k = 6 ∨ k = 8 → mAG σ n y) (h7 : k = 7 → mAG σ n x) : kXM kT L xs (d + 5) 142 [.ref 0, .int (nI k), .int a, .int c] σ (fun r τ => ∃ z, r = some (.int z) ∧ mI τ n b R S C kl ∧ (∀ e, 232 ≤ e → τ e = σ e) ∧ kXM kT L xs (d' + 4) 157 [.ref 232, .int (nI k), .int a, .int c] τ (fun r' ω => r' = some (.int z) ∧ bJ m ω)) := by
  have hI := h.1
  have hT := h.2.1.1
  have hA := h.2.2.1
  have hn := hT.1
  have hk9 := tNw_9 hw
  have hsz := czs_msz hI.1 hA hk hw h6 h7
  have hss : mI σ n b R S C kl ∧ ∀ e, 232 ≤ e → σ e = σ e := ⟨hI, fun _ _ => rfl⟩
  -- what the class has looked for
  have hnone : (∀ t, (t < n ∧ 3 < fN (σ 2 t)) → ¬ cIs σ t (nI k) a c) → ∀ t, t < n → ¬ mIs σ t (nI k) a c := fun q t ht z => by
    have e := hA.1 t ht
    refine q t ⟨ht, ?_⟩ ⟨e.1.trans z.1, e.2.1.trans z.2.1, e.2.2.1.trans z.2.2⟩
    rw [e.1, z.1, fN_nI (by omega)]
    exact hk
  unfold kXM
  iterate 4 (refine kX_one rfl ?_)
  refine kX_cal (mf_sizeOf L xs (d + 2) σ n a hn hT.2.1) rfl (Or.inr rfl) rfl rfl rfl (fun r1 σ1 q1 => ?_)
  obtain ⟨rfl, rfl⟩ := q1
  iterate 4 (refine kX_one rfl ?_)
  refine kX_cal (mf_sizeOf L xs (d + 2) σ n c hn hT.2.1) rfl (Or.inr rfl) rfl rfl rfl (fun r1 σ1 q1 => ?_)
  obtain ⟨rfl, rfl⟩ := q1
  iterate 2 (refine kX_one rfl ?_)
  repeat refine kX_one rfl ?_
  refine kX_if (fun q => ?_) (fun q => ?_)
  · have q : (1 + czs σ n a + czs σ n c : Int32) ≤ nI 24 := of_decide_eq_true q
    rw [hsz] at q
    iterate 5 (refine kX_one rfl ?_)
    refine kX_cal (mf_find L xs (d + 2) σ n (nI k) a c hn hA.2) rfl (Or.inr rfl) rfl rfl rfl (fun r1 σ1 q1 => ?_)
    obtain ⟨hq, rfl⟩ := q1
    rcases hq with ⟨rfl, hno⟩ | ⟨t, t1, rfl, t2⟩
    · have hno := hnone hno
      iterate 6 (refine kX_one rfl ?_)
      refine kX_cal (mc_isFull L xs (d + 3) σ n hn hT.2.1) rfl (Or.inr rfl) rfl rfl rfl (fun r1 σ1 q1 => ?_)
      obtain ⟨rfl, rfl⟩ := q1
      repeat refine kX_one rfl ?_
      refine kX_if (fun q2 => ?_) (fun q2 => ?_)
      · have hlt : n < 200 := by
          have : ¬ n = 200 := fun z => isB_ne.mpr z (qeq q2)
          omega
        iterate 5 (refine kX_one rfl ?_)
        refine kX_cal (mf_newCompound L xs d σ n k a c hT hlt) rfl (Or.inr rfl) rfl rfl rfl (fun r1 σ1 q1 => ?_)
        obtain ⟨rfl, rfl⟩ := q1
        have hx : ∃ x', x' < n ∧ a = nI x' := ⟨x, (tNw_x hw hk).2, (tNw_x hw hk).1⟩
        have hy : (∃ y', y' < n ∧ c = nI y') ∨ (c = -1 ∧ (k = 7 ∨ k = 9)) := by
          rcases hw with ⟨q, -, -⟩ | ⟨q, q1, q2, q3, q4⟩ | ⟨q, q1, q2, q3⟩
          · omega
          · exact Or.inl ⟨y, q4, q2⟩
          · exact Or.inr ⟨q2, q⟩
        have hcx : cCh n a := by
          obtain ⟨x', x1, x2⟩ := hx
          exact Or.inr ⟨x', by omega, x2, Or.inl x1⟩
        have hcy : cCh n c := by
          rcases hy with ⟨y', y1, y2⟩ | ⟨y2, -⟩
          · exact Or.inr ⟨y', by omega, y2, Or.inl y1⟩
          · exact Or.inl y2
        obtain ⟨g1, g2⟩ := cT_co (k := k) (x := a) (y := c) hT hlt (by omega) hk9 hcx hcy (fun _ => by obtain ⟨x', x1, x2⟩ := hx; exact ⟨x', x1, x2, hy⟩)
        have hIt := aJ_hi h (cGr_hi g2)
        refine kX_ret (i := .ireturn) (len := 1) rfl (Or.inr rfl) rfl (⟨_, rfl, hIt, cGr_hi g2, ?_⟩)
        refine kXM_mono (mr_oldOrNew L xs d' (cCo σ n k a c) n b k a c x y hIt.1 hk hw h6 h7) (fun r' ω q1 => ?_)
        rcases q1 with ⟨z, -⟩ | ⟨-, ⟨t, t1, t2, -⟩, -⟩ | ⟨-, -, z, -⟩ | ⟨-, -, -, rfl, hN⟩
        · exact absurd q z
        · exact absurd t2 (hno t t1)
        · omega
        · refine ⟨rfl, ?_⟩
          have hGn := mGr_new hN
          refine bJ_new h g1 g2 (fun t ht => ⟨pk_un (by omega), pk_un (by omega), pk_un (by omega), pk_un (by omega), pk_un (by omega), pk_un (by omega), rfl, rfl, rfl⟩) (cCn_co hA.2 hlt hk hk9) (mI_new hIt hN (by omega) hk9) (mLow_gr hGn) (fun e _ e2 _ _ _ _ => hGn.1 e e2) hGn.2.1 (fun u hu => ⟨(hGn.2.2 u hu).1, (hGn.2.2 u hu).2.1, (hGn.2.2 u hu).2.2, by rw [hGn.1 240 (by decide)], by rw [hGn.1 241 (by decide)], by rw [hGn.1 238 (by decide)], by rw [hGn.1 239 (by decide)]⟩) (aT1_co hI.1 hA hlt hk hw hN)
      · have hf : n = 200 := isB_ne.mp (qeqF q2)
        repeat refine kX_one rfl ?_
        refine kX_ret (i := .ireturn) (len := 1) rfl (Or.inr rfl) rfl (⟨_, rfl, hss.1, hss.2, ?_⟩)
        refine kXM_mono (mr_oldOrNew L xs d' σ n b k a c x y hI.1 hk hw h6 h7) (fun r' ω q1 => ?_)
        rcases q1 with ⟨z, -⟩ | ⟨-, ⟨t, t1, t2, -⟩, -⟩ | ⟨-, -, -, rfl, z⟩ | ⟨-, -, z, -⟩
        · exact absurd q z
        · exact absurd t2 (hno t t1)
        · refine ⟨rfl, ?_⟩
          rcases z with rfl | z
          · exact ⟨n, b, R, S, C, kl, h⟩
          · obtain ⟨z1, z2⟩ := mI_rs hI z
            refine bJ_fr h (mLow_gr z1) ?_ z2
            obtain ⟨hd, jd, rfl, -⟩ := z
            refine ⟨z1.1, fun j hj => ?_, fun u _ => ⟨rfl, rfl, rfl⟩⟩
            simp only [rowJ, List.mem_cons, List.not_mem_nil, or_false, not_or] at hj
            show mO0 (σ 232) jd j = _
            unfold mO0
            rw [pk_un hj.2.2.2.2.1, pk_un hj.2.1, pk_un hj.1]
        · omega
    · have e := hA.1 t t1.1
      have ht2 : mIs σ t (nI k) a c := ⟨e.1.symm.trans t2.1, e.2.1.symm.trans t2.2.1, e.2.2.1.symm.trans t2.2.2⟩
      iterate 3 (refine kX_one rfl ?_)
      repeat refine kX_one rfl ?_
      refine kX_if (fun q2 => ?_) (fun q2 => ?_)
      · exact absurd (qeq q2) (nI_m1 (by omega))
      · repeat refine kX_one rfl ?_
        refine kX_ret (i := .ireturn) (len := 1) rfl (Or.inr rfl) rfl (⟨_, rfl, hss.1, hss.2, ?_⟩)
        refine kXM_mono (mr_oldOrNew L xs d' σ n b k a c x y hI.1 hk hw h6 h7) (fun r' ω q1 => ?_)
        rcases q1 with ⟨z, -⟩ | ⟨-, ⟨u, u1, u2, rfl⟩, rfl⟩ | ⟨-, z, -⟩ | ⟨-, z, -⟩
        · exact absurd q z
        · have : u = t := hI.1.2.2.2.2.2.1.2.2 u t (Or.inl u1) (Or.inl t1.1) (by rw [u2.1, fN_nI (by omega)]; exact hk) (u2.1.trans ht2.1.symm) (u2.2.1.trans ht2.2.1.symm) (u2.2.2.trans ht2.2.2.symm)
          subst this
          exact ⟨rfl, n, b, R, S, C, kl, h⟩
        · exact absurd ht2 (z t t1.1)
        · exact absurd ht2 (z t t1.1)
  · have q : ¬ (1 + czs σ n a + czs σ n c : Int32) ≤ nI 24 := of_decide_eq_false q
    rw [hsz] at q
    repeat refine kX_one rfl ?_
    refine kX_ret (i := .ireturn) (len := 1) rfl (Or.inr rfl) rfl (⟨_, rfl, hss.1, hss.2, ?_⟩)
    refine kXM_mono (mr_oldOrNew L xs d' σ n b k a c x y hI.1 hk hw h6 h7) (fun r' ω q1 => ?_)
    rcases q1 with ⟨-, rfl, rfl⟩ | ⟨z, -⟩ | ⟨z, -⟩ | ⟨z, -⟩
    · exact ⟨rfl, n, b, R, S, C, kl, h⟩
    · exact absurd z q
    · exact absurd z q
    · exact absurd z q
/-- an ATOM more on both sides -/
theorem bJ_at {σ ω : kS} {n b R S C m k : Nat} {kl : List Nat} {v : Int32} {f : Nat → Int32} (h : aJ σ n b R S C kl m) (hn : n < 200) (hk : k ≤ 2) (hN : mNw (cAt σ n k v) ω n k (-1) (-1)) (hf : k = 0 → f n = v) (hf2 : ∀ u, u < n → f u = σ 238 u) : bJ m (va_up ω 238 f) := by
  have hT := h.2.1.1
  have hA := h.2.2.1
  obtain ⟨g1, g2⟩ := cT_at (k := k) (b := v) hT hn hk
  have hIt := aJ_hi h (cGr_hi g2)
  have hGn := mGr_new hN
  have hIn := mI_hon (f := f) (mI_new hIt hN (by omega) (by omega)) (mNw_rit hN)
  refine bJ_new h g1 g2 (fun t ht => ⟨pk_un (by omega), pk_un (by omega), pk_un (by omega), pk_un (by omega), pk_un (by omega), (pk_un (by omega)).trans (pk_un (by omega)), rfl, rfl, rfl⟩) (cCn_0 (k := k) hA.2 (fun t ht => ⟨pk_un (by omega), pk_un (by omega), pk_un (by omega)⟩) pk_us (by omega) rfl rfl) hIn (mLow_trans (mLow_gr hGn) (mLow_up ω _ (by decide))) (fun e _ e2 e3 _ _ _ => by
    show va_up ω 238 f e = _
    rw [show va_up ω 238 f e = ω e from if_neg e3]
    exact hGn.1 e e2) (fun j hj => hGn.2.1 j hj) (fun u hu => ⟨(hGn.2.2 u hu).1, (hGn.2.2 u hu).2.1, (hGn.2.2 u hu).2.2, by
      show ω 240 u = _
      rw [hGn.1 240 (by decide)], by
      show ω 241 u = _
      rw [hGn.1 241 (by decide)], hf2 u hu, by
      show ω 239 u = _
      rw [hGn.1 239 (by decide)]⟩) ?_
  have hTn := hIn.1
  have esz := hTn.2.2.2.2.2.1.2.1 n (Or.inl (by omega))
  have egr := hTn.2.2.2.2.2.2.1 n (Or.inl (by omega))
  obtain ⟨z, g, nx, hd, jd, rfl, -⟩ := hN
  refine ⟨pk_us.trans pk_us.symm, pk_us.trans pk_us.symm, pk_us.trans pk_us.symm, ?_, ?_, fun q => ?_, fun q => ?_⟩
  · refine Eq.trans (b := (1 : Int32)) pk_us (Eq.trans ?_ esz.symm)
    show _ = nI (tsz (upd (σ 233) n (nI k)) (upd (σ 234) n (-1)) (upd (σ 235) n (-1)) n)
    have e : tsz (upd (σ 233) n (nI k)) (upd (σ 234) n (-1)) (upd (σ 235) n (-1)) n = 1 := tA_0 (k := k) pk_us (by omega)
    rw [e]
    rfl
  · refine Eq.trans (b := (1 : Int32)) pk_us (Eq.trans ?_ egr.symm)
    show _ = bI (tgd (upd (σ 233) n (nI k)) (upd (σ 234) n (-1)) (upd (σ 235) n (-1)) n)
    have e : tgd (upd (σ 233) n (nI k)) (upd (σ 234) n (-1)) (upd (σ 235) n (-1)) n = decide (upd (σ 233) n (nI k) n ≠ nI 3) := tA_0 (k := k) pk_us (by omega)
    rw [e, pk_us, decide_eq_true (nI_ne (by omega))]
    rfl
  · have q : upd (σ 233) n (nI k) n = nI 0 := q
    rw [pk_us] at q
    have := hf (nI_inj q)
    show upd (upd (σ 9) n 0) n v n = f n
    rw [pk_us, this]
  · have q : upd (σ 233) n (nI k) n = nI 3 := q
    rw [pk_us] at q
    have := nI_inj q
    omega
theorem va_same (σ : kS) (c : Nat) : va_up σ c (σ c) = σ := by
  funext e
  unfold va_up
  split
  · next q => rw [q]
  · rfl
set_option maxRecDepth 100000 in
set_option maxHeartbeats 4000000 in
theorem bo_agent (L : Nat) (xs : Nat → Int32) (d d' m : Nat) (σ : kS) (v : Int32) (hv : v = 0 ∨ v = 1) (h : bJ m σ) : kXM kT L xs (d + 5) 109 [.ref 0, .int v] σ (fun r τ => ∃ z, r = some (.int z) ∧ kXM kT L xs (d' + 4) 155 [.ref 232, .int v] τ (fun r' ω => r' = some (.int z) ∧ bJ m ω)) := by
  obtain ⟨n, b, R, S, C, kl, h⟩ := h
  have hI := h.1
  have hT := h.2.1.1
  unfold kXM
  iterate 2 (refine kX_one rfl ?_)
  refine kX_cal (mc_isFull L xs (d + 3) σ n hT.1 hT.2.1) rfl (Or.inr rfl) rfl rfl rfl (fun r1 σ1 q1 => ?_)
  obtain ⟨rfl, rfl⟩ := q1
  repeat refine kX_one rfl ?_
  refine kX_if (fun q => ?_) (fun q => ?_)
  · have hlt : n < 200 := by
      have : ¬ n = 200 := fun z => isB_ne.mpr z (qeq q)
      have := hT.1
      omega
    iterate 4 (refine kX_one rfl ?_)
    refine kX_cal (mf_newAtom L xs d σ n 0 v hT (by decide) hv hlt) rfl (Or.inr rfl) rfl rfl rfl (fun r1 σ1 q1 => ?_)
    obtain ⟨rfl, rfl⟩ := q1
    have hIt := aJ_hi h (cGr_hi (cT_at (k := 0) (b := v) hT hlt (by decide)).2)
    refine kX_ret (i := .ireturn) (len := 1) rfl (Or.inr rfl) rfl (⟨_, rfl, ?_⟩)
    refine kXM_mono (mr_agent L xs d' _ n b hIt.1 v hv) (fun r' ω q1 => ?_)
    rcases q1 with ⟨z, -⟩ | ⟨-, rfl, ω', hN, rfl⟩
    · omega
    · exact ⟨rfl, bJ_at h hlt (by decide) hN (fun _ => pk_us) (fun u hu => pk_un (by omega))⟩
  · have hf : n = 200 := isB_ne.mp (qeqF q)
    repeat refine kX_one rfl ?_
    refine kX_ret (i := .ireturn) (len := 1) rfl (Or.inr rfl) rfl (⟨_, rfl, ?_⟩)
    refine kXM_mono (mr_agent L xs d' _ n b hI.1 v hv) (fun r' ω q1 => ?_)
    rcases q1 with ⟨-, rfl, rfl⟩ | ⟨z, -⟩
    · exact ⟨rfl, n, b, R, S, C, kl, h⟩
    · omega
