/-! alike: row -/
theorem numN_hi2 {σ τ : kS} {n : Nat} (e : ∀ c, 232 ≤ c → τ c = σ c) : numN τ n = numN σ n := by
  unfold numN mtv
  rw [e 233 (by decide), e 234 (by decide), e 235 (by decide)]
set_option maxRecDepth 100000 in
set_option maxHeartbeats 4000000 in
theorem bo_row (L : Nat) (xs : Nat → Int32) (d d' m : Nat) (σ : kS) (x y : Int32) (hm : m < 2147483646) (h : bJ m σ) : kXM kT L xs (d + 56) 127 [.ref 0, .int x, .int y] σ (fun r τ => (∃ z, r = some (.int z)) ∧ kXM kT L xs (d' + 8) 204 [.ref 232, .int x, .int y] τ (fun r' ω => (∃ z, r' = some (.int z)) ∧ bJ (m + 1) ω)) := by
  have hb := bJ_up (Nat.le_succ m) h
  obtain ⟨n, b, R, S, C, kl, h⟩ := h
  have hT := h.1.1
  have hn := hT.1
  have hU := h.2.2.2.2.2.2.2.1
  have hno0 : ¬ (isN y 5 ∧ σ 232 52 = 1) → kXM kT L xs (d' + 8) 204 [.ref 232, .int x, .int y] σ (fun r' ω => (∃ z, r' = some (.int z)) ∧ bJ (m + 1) ω) := fun hz =>
    mg_row L xs d' σ n b R S C kl x y _ h.1 (fun _ z => ⟨⟨z, rfl⟩, hb⟩) (fun _ _ _ _ z1 z2 _ _ _ _ => absurd ⟨z1, z2⟩ hz) (fun _ _ _ _ _ z1 z2 _ _ _ _ _ _ => absurd ⟨⟨4, by decide, z1⟩, z2⟩ hz)
  unfold kXM
  repeat refine kX_one rfl ?_
  refine kX_if (fun q => ?_) (fun q => ?_)
  · have q : y < 0 := of_decide_eq_true q
    repeat refine kX_one rfl ?_
    refine kX_ret (i := .ireturn) (len := 1) rfl (Or.inr rfl) rfl (⟨⟨_, rfl⟩, hno0 (fun ⟨⟨j, j1, j2⟩, _⟩ => by rw [j2] at q; exact nI_pos (by omega) q)⟩)
  · have q : ¬ y < 0 := of_decide_eq_false q
    obtain ⟨j, hj, rfl⟩ := nI_of q
    repeat refine kX_one rfl ?_
    refine kX_if (fun q2 => ?_) (fun q2 => ?_)
    · have q2 := qle q2 j 4
      repeat refine kX_one rfl ?_
      refine kX_if (fun q3 => ?_) (fun q3 => ?_)
      · have hon : σ 181 8 ≠ 0 := qne q3
        have hr0 : σ 232 52 ≠ 0 := hU.1.mp hon
        obtain ⟨hr1, ds, hD, -⟩ := mI_ds h.1 hr0
        iterate 2 (refine kX_one rfl ?_)
        refine kX_cal (mf_intruder L xs d σ σ n b R S C m kl ds (vw_refl σ) h hm hr0 hD) rfl (Or.inr rfl) rfl rfl rfl (fun r1 τ q1 => ?_)
        obtain ⟨rfl, u, m', l, hm', hQ⟩ := q1
        have hE := hQ.2.2.2.1
        have hJ2 := inQ_J h hr0 hD hQ hm'
        have e0 : ∀ c, 232 ≤ c → τ c = σ c := fun c hc => inQ_cell hQ (by omega) (by omega) (by omega) (by omega)
        have hln := (iE_len hE).2
        have hlr : (trRun σ kl ds).length = l.length := by rw [← hQ.2.2.2.2.2.2.2, kTr_len]
        have refN : ∀ π, aJ π n b R S C kl (m + 1) → (∀ c, 232 ≤ c → π c = σ c) → ¬ (nI j = nI 4 ∧ ∃ i q, x = nI i ∧ rowOk σ n (trRun σ kl ds) i q) → kXM kT L xs (d' + 8) 204 [.ref 232, .int x, .int (nI j)] π (fun r' ω => (∃ z, r' = some (.int z)) ∧ bJ (m + 1) ω) := fun π hJ e hz => by
          refine mg_row L xs d' π n b R S C kl x (nI j) _ hJ.1 (fun _ z => ⟨⟨z, rfl⟩, n, b, R, S, C, kl, hJ⟩) (fun ds' b' σ' z _ _ _ _ hF hI => ⟨⟨z, rfl⟩, bJ_fr hJ (mLow_fr hF) hF hI⟩) (fun ds' i q σ' z z1 _ hD' z2 hok _ _ _ => ?_)
          obtain rfl : ds = ds' := mRn_u hJ.1.2.1 hJ.1.2.2.1.1 (mRn_hi e hD) hD'
          unfold rowOk at hok
          rw [numN_hi2 e, trRun_hi e] at hok
          exact absurd ⟨z1, i, q, z2, hok⟩ hz
        have hA : ¬ (nI j = nI 4 ∧ ∃ i q, x = nI i ∧ rowOk σ n (trRun σ kl ds) i q) → kXM kT L xs (d' + 8) 204 [.ref 232, .int x, .int (nI j)] τ (fun r' ω => (∃ z, r' = some (.int z)) ∧ bJ (m + 1) ω) := refN τ hJ2 e0
        iterate 1 (refine kX_one rfl ?_)
        repeat refine kX_one rfl ?_
        refine kX_if (fun q4 => ?_) (fun q4 => ?_)
        · have q4 : x < 0 := of_decide_eq_true q4
          have hz := hA (fun ⟨_, i, q, z1, z2, _⟩ => by
            have := (List.getElem?_eq_some_iff.mp z2).1
            rw [z1] at q4
            exact nI_pos (by omega) q4)
          repeat refine kX_one rfl ?_
          refine kX_ret (i := .ireturn) (len := 1) rfl (Or.inr rfl) rfl (⟨⟨_, rfl⟩, hz⟩)
        · have q4 : ¬ x < 0 := of_decide_eq_false q4
          obtain ⟨i, hi, rfl⟩ := nI_of q4
          iterate 3 (refine kX_one rfl ?_)
          refine kX_top (hE.2.2.2.2.2.2.2.1.1) ?_
          repeat refine kX_one rfl ?_
          refine kX_if (fun q5 => ?_) (fun q5 => ?_)
          · have q5 := qlt q5 i l.length
            have hrow := hE.2.2.2.2.2.2.2.1.2.1 i q5
            have hlg := iE_l hE ⟨l[i]'q5, List.getElem_mem q5, rfl⟩
            have htr : (trRun σ kl ds)[i]? = some (kTv τ (l[i]'q5).1, (l[i]'q5).2.1, nnI (l[i]'q5).2.2) := by
              rw [← hQ.2.2.2.2.2.2.2]
              unfold kTr
              rw [List.getElem?_map, List.getElem?_eq_getElem q5]
              rfl
            have hvs : vsz (kTv τ (l[i]'q5).1) ≤ 576 := trB_run hT h.1.2.1 h.1.2.2.2.1 hD _ (List.mem_of_getElem? htr)
            generalize (l[i]'q5).1 = g at hrow hlg htr hvs
            have hgl := iE_lt hE hlg.1
            iterate 3 (refine kX_one rfl ?_)
            refine kX_ialdV rfl rfl (by decide) (i) (by first | rfl | decide) (by omega) (hrow.1) ?_
            have : j = 0 ∨ j = 1 ∨ j = 2 ∨ j = 3 ∨ j = 4 := by omega
            rcases this with rfl | rfl | rfl | rfl | rfl
            · iterate 7 (refine kX_one rfl ?_)
              refine kX_ialdN rfl rfl (by decide) (g) (by first | rfl | decide) (hgl) ?_
              refine kX_ret (i := .ireturn) (len := 1) rfl (Or.inr rfl) rfl (⟨⟨_, rfl⟩, hA (fun z => absurd (nI_inj z.1) (by decide))⟩)
            · iterate 7 (refine kX_one rfl ?_)
              refine kX_ialdN rfl rfl (by decide) (g) (by first | rfl | decide) (hgl) ?_
              refine kX_ret (i := .ireturn) (len := 1) rfl (Or.inr rfl) rfl (⟨⟨_, rfl⟩, hA (fun z => absurd (nI_inj z.1) (by decide))⟩)
            · iterate 6 (refine kX_one rfl ?_)
              refine kX_ialdN rfl rfl (by decide) (i) (by first | rfl | decide) (by omega) ?_
              refine kX_ret (i := .ireturn) (len := 1) rfl (Or.inr rfl) rfl (⟨⟨_, rfl⟩, hA (fun z => absurd (nI_inj z.1) (by decide))⟩)
            · iterate 6 (refine kX_one rfl ?_)
              refine kX_ialdN rfl rfl (by decide) (i) (by first | rfl | decide) (by omega) ?_
              refine kX_cal (mc_orNone L xs (d + 54) τ _) rfl (Or.inr rfl) rfl rfl rfl (fun r1 σ1 q1 => ?_)
              obtain ⟨rfl, rfl⟩ := q1
              refine kX_ret (i := .ireturn) (len := 1) rfl (Or.inr rfl) rfl (⟨⟨_, rfl⟩, hA (fun z => absurd (nI_inj z.1) (by decide))⟩)
            · have hknN : knN τ n = numN σ n := by
                funext t
                unfold knN numN
                refine propext (exists_congr (fun z => and_congr_right (fun hz => ?_)))
                rw [aT_tv hJ2.1.1 hJ2.2.2.1.1 hz, e0 233 (by decide), e0 234 (by decide), e0 235 (by decide)]
              have hnu : nuOk τ n g ↔ rowOk σ n (trRun σ kl ds) i (kTv τ g, (l[i]'q5).2.1, nnI (l[i]'q5).2.2) := by
                unfold nuOk rowOk
                rw [hknN]
                refine ⟨fun z => ⟨htr, ?_, z.2.1, z.2.2⟩, fun z => ⟨?_, z.2.2.1, z.2.2.2⟩⟩
                · rw [← hknN]
                  have := z.1
                  have hv := hlg.1
                  unfold kV at hv
                  exact kN_hi hE (by omega) (by omega)
                · refine Nat.not_lt.mp (fun hh => z.2.1 ?_)
                  rw [← hknN]
                  exact ⟨g, hh, rfl⟩
              iterate 6 (refine kX_one rfl ?_)
              refine kX_cal (mf_numbered L xs d τ n u m' g l hE hJ2.2.1.1 hQ.2.2.2.2.1 hQ.2.2.2.2.2.1 hlg.1 hlg.2 hvs) rfl (Or.inr rfl) rfl rfl rfl (fun r1 ω q1 => ?_)
              obtain ⟨⟨z, rfl⟩, W, hw⟩ := q1
              have hQW : inQ σ (va_up τ 194 W) n u m' l (trRun σ kl ds) := by
                obtain ⟨h1, h2, h3, h4, h5, h6, h7, h8⟩ := hQ
                refine ⟨⟨⟨fun c a1 a2 a3 a4 a5 a6 => ?_, h1.1.2⟩, h1.2⟩, h2, h3, h4, h5, h6, h7, h8⟩
                rw [up_ne (by omega)]
                exact h1.1.1 c a1 a2 a3 a4 a5 a6
              have hJW := inQ_J h hr0 hD hQW hm'
              have eW : ∀ c, 232 ≤ c → va_up τ 194 W c = σ c := fun c hc => (up_ne (by omega)).trans (e0 c hc)
              rcases hw with ⟨hz, rfl⟩ | ⟨hz, hq⟩
              · have hz2 := refN _ hJW eW (fun ⟨_, i', q', z1, hok⟩ => by
                  have := (List.getElem?_eq_some_iff.mp hok.1).1
                  obtain rfl : i = i' := nI_inj z1
                  have e1 := Option.some.inj (hok.1.symm.trans htr)
                  rw [e1] at hok
                  exact hz (hnu.mpr hok))
                refine kX_ret (i := .ireturn) (len := 1) rfl (Or.inr rfl) rfl (⟨⟨_, rfl⟩, hz2⟩)
              · have eω : ∀ c, 232 ≤ c → ω c = σ c := fun c hc => (cGr_hi hq.2.2.1 c hc).trans (eW c hc)
                have hok := hnu.mp hz
                have hpos : 0 < (poT (knN τ n) (kTv τ g) []).length := by
                  have hv := hlg.1
                  have := hz.1
                  unfold kV at hv
                  rcases (po_tab hE g hlg.1 [] cloK_nil List.Pairwise.nil).2.2 with w | w
                  · exact absurd w (kN_hi hE (by omega) (by omega))
                  · exact List.length_pos_of_mem w
                have hIω := mI_hi eω h.1
                refine kX_ret (i := .ireturn) (len := 1) rfl (Or.inr rfl) rfl (⟨⟨_, rfl⟩, ?_⟩)
                refine mg_row L xs d' ω n b R S C kl (nI i) (nI 4) _ hIω (fun z' => absurd ⟨⟨4, by decide, rfl⟩, by rw [eω 232 (by decide)]; exact hr1⟩ z') (fun ds' b' σ' z' _ _ hD' hno _ _ => ?_) (fun ds' i' q' σ' z' _ _ hD' z2 hok' hG hI ht => ?_)
                · obtain rfl : ds = ds' := mRn_u hIω.2.1 hIω.2.2.1.1 (mRn_hi eω hD) hD'
                  refine absurd ⟨rfl, i, (kTv τ g, (l[i]'q5).2.1, nnI (l[i]'q5).2.2), rfl, ?_⟩ hno
                  unfold rowOk
                  rw [numN_hi2 eω, trRun_hi eω]
                  exact hok
                · obtain rfl : ds = ds' := mRn_u hIω.2.1 hIω.2.2.1.1 (mRn_hi eω hD) hD'
                  unfold rowOk at hok'
                  rw [numN_hi2 eω, trRun_hi eω] at hok'
                  have := (List.getElem?_eq_some_iff.mp hok'.1).1
                  obtain rfl : i = i' := nI_inj z2
                  have eq' : q' = _ := Option.some.inj (hok'.1.symm.trans htr)
                  subst eq'
                  rw [numN_hi2 eω, ← hknN] at hI
                  simp only [numN_hi2 eω, ← hknN] at ht
                  exact ⟨⟨z', rfl⟩, bJ_many hJW hpos hq hI hG ht⟩
          · have q5 := qltF q5 i l.length
            have hz := hA (fun ⟨_, i', q', z1, z2, _⟩ => by
              have := (List.getElem?_eq_some_iff.mp z2).1
              have := nI_inj z1
              omega)
            repeat refine kX_one rfl ?_
            refine kX_ret (i := .ireturn) (len := 1) rfl (Or.inr rfl) rfl (⟨⟨_, rfl⟩, hz⟩)
      · have q3 : σ 181 8 = 0 := qneF q3
        have hr0 : σ 232 52 = 0 := Classical.byContradiction fun z => hU.1.mpr z q3
        repeat refine kX_one rfl ?_
        refine kX_ret (i := .ireturn) (len := 1) rfl (Or.inr rfl) rfl (⟨⟨_, rfl⟩, hno0 (fun z => absurd (z.2.symm.trans hr0) (by decide))⟩)
    · have q2 := qleF q2 j 4
      repeat refine kX_one rfl ?_
      refine kX_ret (i := .ireturn) (len := 1) rfl (Or.inr rfl) rfl (⟨⟨_, rfl⟩, hno0 (fun ⟨⟨j', j1, j2⟩, _⟩ => by have := nI_inj j2; omega)⟩)
