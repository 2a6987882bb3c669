/-! alike: event, both -/
/-- what listVariables leaves behind matters to nobody -/
theorem aJ_lv {σ : kS} {n b R S C m : Nat} {kl : List Nat} {ST VS : Nat → Int32} (h : aJ σ n b R S C kl m) (h2 : cJ (lvU σ ST VS) n R S C) : aJ (lvU σ ST VS) n b R S C kl m := by
  have hlv : ∀ c, c ≠ 20 → c ≠ 21 → lvU σ ST VS c = σ c := fun c x1 x2 => by
    unfold lvU
    rw [up_ne x2, up_ne x1]
  have hi : ∀ c, 232 ≤ c → lvU σ ST VS c = σ c := fun c hc => hlv c (by omega) (by omega)
  have hr : ∀ l : List Nat, l.all (fun c => decide (232 ≤ c)) = true → eqC σ (lvU σ ST VS) l := eqC_of hi
  have h232 : lvU σ ST VS 232 = σ 232 := hi _ (by decide)
  obtain ⟨i, j, tt, ar, as, ac, k, u, f, mm⟩ := h
  exact ⟨mI_hi hi i, h2, aT_c (fun c c1 c2 => hlv c (by omega) (by omega)) (hr _ (by decide)) tt, aR_c i.1 i.2.1 (fun c c1 c2 => hlv c (by omega) (by omega)) (hr _ (by decide)) ar, aS_c i.1.1 i.2.1 i.2.2.1 (hlv _ (by decide) (by decide)) (hlv _ (by decide) (by decide)) (hlv _ (by decide) (by decide)) (hr _ (by decide)) as, aC_c i.2.2.2.2.1 (fun c c1 c2 => hlv c (by omega) (by omega)) (hr _ (by decide)) ac, aK_eq (by rw [hlv 13 (by decide) (by decide)]) (hlv _ (by decide) (by decide)) k, aU_c (fun c c1 c2 => hlv c (by omega) (by omega)) (fun c c1 c2 => hlv c (by omega) (by omega)) (hlv _ (by decide) (by decide)) (hr _ (by decide)) (by rw [h232]) (by rw [h232]) u, aF_c i.1 i.2.1 i.2.2.1 (fun c c1 c2 => hlv c (by omega) (by omega)) (hr _ (by decide)) (hlv _ (by decide) (by decide)) (hlv _ (by decide) (by decide)) (hlv _ (by decide) (by decide)) (hlv _ (by decide) (by decide)) ⟨by rw [h232], by rw [h232], by rw [h232], by rw [h232]⟩ (hr _ (by decide)) f, aM_eq (Nat.le_refl _) (fun c c1 c2 => hlv c (by omega) (by omega)) mm⟩
set_option maxRecDepth 100000 in
set_option maxHeartbeats 4000000 in
theorem bo_event (L : Nat) (xs : Nat → Int32) (d d' m : Nat) (σ : kS) (x b z : Int32) (hb : b = 0 ∨ b = 1) (h : bJ m σ) : kXM kT L xs (d + 6) 116 [.ref 0, .int x, .int b, .int z] σ (fun r τ => ∃ z', r = some (.int z') ∧ kXM kT L xs (d' + 3) 166 [.ref 232, .int x, .int b, .int z] τ (fun r' ω => r' = some (.int z') ∧ bJ m ω)) := by
  have hbj := h
  obtain ⟨n, b0, R, S, C, kl, hA⟩ := h
  have hI := hA.1
  have h := hA.2.1
  have hT := h.1
  have hn := hT.1
  have hR := h.2.1
  have hR4 := hR.1
  unfold kXM
  have k22 : ¬ (isN x R ∧ isN z n) → kX kT L xs (d + 6) 116 22 (lv_args 0 [.ref 0, .int x, .int b, .int z]) [] σ (fun r τ => ∃ z', r = some (.int z') ∧ kXM kT L xs (d' + 3) 166 [.ref 232, .int x, .int b, .int z] τ (fun r' ω => r' = some (.int z') ∧ bJ m ω)) := by
    intro q
    repeat refine kX_one rfl ?_
    refine kX_ret (i := .ireturn) (len := 1) rfl (Or.inr rfl) rfl (⟨_, rfl, mg_event L xs d' σ n b0 R S C kl _ _ _ hb _ hI (fun _ => ⟨rfl, hbj⟩) (fun r t c1 c2 c3 c4 => absurd ⟨⟨r, c1, c2⟩, t, c3, c4⟩ q) (fun r t c1 c2 c3 c4 => absurd ⟨⟨r, c1, c2⟩, t, c3, c4⟩ q) (fun r t ev W ST m A c1 c2 c3 c4 => absurd ⟨⟨r, c1, c2⟩, t, c3, c4⟩ q) (fun r t ev W ST m A c1 c2 c3 c4 => absurd ⟨⟨r, c1, c2⟩, t, c3, c4⟩ q)⟩)
  iterate 3 (refine kX_one rfl ?_)
  refine kX_cal (mc_hasRole L xs (d + 4) σ R x hR4 hR.2.1) rfl (Or.inr rfl) rfl rfl rfl (fun r1 σ1 q1 => ?_)
  obtain ⟨rfl, rfl⟩ := q1
  repeat refine kX_one rfl ?_
  refine kX_if (fun q => ?_) (fun q => ?_)
  · exact k22 (fun e => isB_ne.mpr e.1 (qeq q))
  · obtain ⟨r, hr, rfl⟩ := isB_ne.mp (qeqF q)
    have hr4 : r < 4 := by omega
    obtain ⟨v, e, v1, e1, v2, e2, so1, ev1⟩ := hR.2.2 r hr
    obtain ⟨f1, f2, f3, f4, f5⟩ := hA.2.2.2.1 r hr
    have hvr : σ 244 r = nI v := f1.symm.trans v2
    have her : σ 247 r = nI e := f2.symm.trans e2
    have hfv : fN (σ 244 r) = v := by rw [hvr, fN_nI (by omega)]
    have hfe : fN (σ 247 r) = e := by rw [her, fN_nI (by omega)]
    iterate 3 (refine kX_one rfl ?_)
    refine kX_cal (mc_has L xs (d + 4) σ n z hn hT.2.1) rfl (Or.inr rfl) rfl rfl rfl (fun r1 σ1 q1 => ?_)
    obtain ⟨rfl, rfl⟩ := q1
    repeat refine kX_one rfl ?_
    refine kX_if (fun q2 => ?_) (fun q2 => ?_)
    · obtain ⟨t, ht, rfl⟩ := isB_ne.mp (qne q2)
      have uni : ∀ r' t', r' < R → nI r = nI r' → t' < n → nI t = nI t' → r' = r ∧ t' = t := fun r' t' c1 c2 c3 c4 => ⟨(nI_inj c2).symm, (nI_inj c4).symm⟩
      iterate 4 (refine kX_one rfl ?_)
      refine kX_aaldN rfl (rfl) (by decide) (by decide) (by decide) (r) (by first | rfl | decide) (hr4) (ro_at hr4) ?_
      iterate 2 (refine kX_one rfl ?_)
      refine kX_getN rfl rfl (kT_ro hr4) rfl ?_
      repeat refine kX_one rfl ?_
      refine kX_if (fun q3 => ?_) (fun q3 => ?_)
      · have hcl : σ 250 r = 0 := Classical.byContradiction (fun z => f3.mpr z (qeq q3))
        iterate 1 (refine kX_one rfl ?_)
        refine kX_getN rfl rfl (kT_ro hr4) rfl ?_
        refine kX_top (e2) ?_
        iterate 1 (refine kX_one rfl ?_)
        repeat refine kX_one rfl ?_
        refine kX_if (fun q4 => ?_) (fun q4 => ?_)
        · have q4 := qlt q4 e 6
          iterate 5 (refine kX_one rfl ?_)
          refine kX_cal (mf_mayBeEvent L xs (d + 2) σ n b0 R r t v b hT hI.1 hA.2.2.1 hR4 hr ht v1 v2) rfl (Or.inr rfl) rfl rfl rfl (fun r1 σ1 q1 => ?_)
          obtain ⟨rfl, ST, VS, rfl⟩ := q1
          have hlv : ∀ c, c ≠ 20 → c ≠ 21 → lvU σ ST VS c = σ c := fun c x1 x2 => by
            unfold lvU
            rw [up_ne x2, up_ne x1]
          have h2 : cJ (lvU σ ST VS) n R S C := by
            refine cJ_lo h (fun c hc => hlv c (by omega) (by omega)) (fun j _ => by rw [hlv 13 (by decide) (by decide)]) ⟨hR4, by rw [hlv 13 (by decide) (by decide)]; exact hR.2.1, fun r' hr' => cR1_eq (fun c c1 c2 => hlv c (by omega) (by omega)) (hR.2.2 r' hr')⟩ (Nat.le_refl _)
          have hhi : ∀ c, 232 ≤ c → lvU σ ST VS c = σ c := fun c hc => hlv c (by omega) (by omega)
          -- both sides ask the same
          have hok : ∀ u ∈ tvs (σ 233) (σ 234) (σ 235) t, (okC σ r v b u ↔ okU σ r e b u) := fun u hu => by
            have hun := tvs_mem (mTb_num hI.1) t ht u hu
            obtain ⟨t1, t2, t3⟩ := (hA.2.2.1.1 u hun.1).2.2.2.2.2.2 hun.2.1
            unfold okC okU
            rw [t1, t3]
            refine and_congr_right (fun ho => imp_congr_right (fun hb' => ?_))
            obtain ⟨r2, k2, a1, a2, a3⟩ := hI.2.1.2.2.2.2.1 u hun.1 hun.2.1
            obtain ⟨t', so', as', b1, b2, b3, b4, b5, -⟩ := hI.2.1.2.2.2.1 r2 k2 a1 a2
            obtain rfl : u = t' := nI_inj (a3.symm.trans b2) (by omega) (by omega)
            obtain rfl : r2 = r := nI_inj (b4.symm.trans ho) (by omega) (by omega)
            rw [hfv] at a2
            obtain ⟨c1, c2, c3⟩ := f4 k2 (by omega)
            rw [hfe] at c3
            rw [b5, fN_nI (by omega)]
            constructor
            · intro hw ha
              have hb2 : bdv σ r2 e k2 := (c3 ha).mp (fun z => hw ⟨k2, a2, rfl, c1.trans ha, z⟩)
              rcases hb2.2 with z | ⟨e', y1, y2, y3⟩
              · exact absurd ha z
              · rw [a3, fN_nI (by omega)] at y3
                exact ⟨e', y1, y2, y3⟩
            · rintro hw ⟨k', k1, k2', k3, k4⟩
              obtain rfl : k2 = k' := nI_inj k2'
              rw [c1] at k3
              obtain ⟨e', y1, y2, y3⟩ := hw k3
              exact (c3 k3).mpr ⟨by omega, Or.inr ⟨e', y1, y2, by rw [a3, fN_nI (by omega)]; exact y3⟩⟩ k4
          repeat refine kX_one rfl ?_
          refine kX_if (fun qm => ?_) (fun qm => ?_)
          rotate_left
          · have hno : ¬ ∀ u ∈ tvs (σ 233) (σ 234) (σ 235) t, okU σ r e b u := fun q => isB_ne.mpr (fun u hu => (hok u hu).mpr (q u hu)) (qneF qm)
            have hJ2 : aJ (lvU σ ST VS) n b0 R S C kl m := aJ_lv hA h2
            have eC : lvU σ ST VS 250 = σ 250 := hhi _ (by decide)
            have eE : lvU σ ST VS 247 = σ 247 := hhi _ (by decide)
            repeat refine kX_one rfl ?_
            refine kX_ret (i := .ireturn) (len := 1) rfl (Or.inr rfl) rfl ⟨_, rfl, mg_event L xs d' (lvU σ ST VS) n b0 R S C kl _ _ _ hb _ hJ2.1 (fun q => absurd ⟨⟨r, hr, rfl⟩, t, ht, rfl⟩ q) (fun r' t' c1 c2 c3 c4 c5 => ?_) (fun r' t' c1 c2 c3 c4 c5 c6 => ?_) (fun r' t' ev W ST' m' A c1 c2 c3 c4 c5 c6 c7 c8 c9 => ⟨rfl, bJ_fr hJ2 (mLow_fr (mFr_ev _ n W ST' m' A)) (mFr_ev _ n W ST' m' A) c9⟩) (fun r' t' ev W ST' m' A c1 c2 c3 c4 c5 c6 c7 c8 => ?_)⟩
            · obtain ⟨rfl, rfl⟩ := uni r' t' c1 c2 c3 c4
              rw [eC] at c5
              exact absurd hcl c5
            · obtain ⟨rfl, rfl⟩ := uni r' t' c1 c2 c3 c4
              rw [eE, her] at c6
              have := nI_inj c6
              omega
            · obtain ⟨rfl, rfl⟩ := uni r' t' c1 c2 c3 c4
              rw [eE, her] at c6
              obtain rfl : e = ev := nI_inj c6
              refine absurd ?_ hno
              rw [hhi 233 (by decide), hhi 234 (by decide), hhi 235 (by decide)] at c8
              intro u hu
              have := c8 u hu
              unfold okU rcv at this ⊢
              rw [hhi 239 (by decide), hhi 246 (by decide), hhi 241 (by decide), hhi 249 (by decide), hhi 233 (by decide), hhi 234 (by decide), hhi 235 (by decide), hhi 248 (by decide)] at this
              exact this
          · have hyes : ∀ u ∈ tvs (σ 233) (σ 234) (σ 235) t, okU σ r e b u := fun u hu => (hok u hu).mp (isB_ne.mp (qne qm) u hu)
            have hvu : ∀ w ∈ tvs (σ 233) (σ 234) (σ 235) t, ∃ k, k < v ∧ σ 12 w = nI k ∧ σ 245 (6 * r + k) = nI w ∧ w < n := fun w hw => by
              have hwn := tvs_mem (mTb_num hI.1) t ht w hw
              obtain ⟨r2, k2, a1, a2, a3⟩ := hI.2.1.2.2.2.2.1 w hwn.1 hwn.2.1
              obtain ⟨t', so', as', b1, b2, b3, b4, b5, -⟩ := hI.2.1.2.2.2.1 r2 k2 a1 a2
              obtain rfl : w = t' := nI_inj (a3.symm.trans b2) (by omega) (by omega)
              obtain rfl : r2 = r := nI_inj (b4.symm.trans (hyes w hw).1) (by omega) (by omega)
              rw [hfv] at a2
              exact ⟨k2, a2, ((hA.2.2.1.1 w hwn.1).2.2.2.2.2.2 hwn.2.1).2.2.trans b5, a3, hwn.1⟩
            have etv : tvs (lvU σ ST VS 233) (lvU σ ST VS 234) (lvU σ ST VS 235) t = tvs (σ 233) (σ 234) (σ 235) t := by rw [hhi 233 (by decide), hhi 234 (by decide), hhi 235 (by decide)]
            have ePl : lvU σ ST VS 12 = σ 12 := hlv _ (by decide) (by decide)
            iterate 5 (refine kX_one rfl ?_)
            refine kX_cal (mf_newEvent L xs d (lvU σ ST VS) n b0 R S C r e t v b h2 (mTb_hi hhi hI.1) (aT_c (fun c c1 c2 => hlv c (by omega) (by omega)) (eqC_of (P := fun c => 232 ≤ c) hhi _ (by decide)) hA.2.2.1) v1 (by rw [hlv _ (by omega) (by omega)]; exact v2) (by rw [etv, ePl]; exact fun u hu => by obtain ⟨k', k1, k2, -⟩ := hvu u hu; exact ⟨k', k1, k2⟩) (by
              rw [etv, ePl]
              intro u hu w hw q
              obtain ⟨k', k1, k2, k3, k4⟩ := hvu u hu
              obtain ⟨k'', l1, l2, l3, l4⟩ := hvu w hw
              obtain rfl : k' = k'' := nI_inj (k2.symm.trans (q.trans l2))
              exact nI_inj (k3.symm.trans l3)) hr q4 (by rw [hlv _ (by omega) (by omega)]; exact e2) ht hb) rfl (Or.inr rfl) rfl rfl rfl (fun r1 τ q1 => ?_)
            obtain ⟨rfl, hJτ, hneP⟩ := q1
            have hiτ : ∀ c, 232 ≤ c → τ c = σ c := fun c hc => (hneP.1 c (by omega) (by omega) (by omega) (by omega) (by omega) (by omega)).trans (hhi c hc)
            have hIτ := aJ_hi hA hiτ
            have eC : τ 250 = σ 250 := hiτ _ (by decide)
            have eE : τ 247 = σ 247 := hiτ _ (by decide)
            have hyτ : ∀ u ∈ tvs (τ 233) (τ 234) (τ 235) t, okU τ r e b u := by
              rw [hiτ 233 (by decide), hiτ 234 (by decide), hiτ 235 (by decide)]
              intro u hu
              have := hyes u hu
              unfold okU rcv at this ⊢
              rw [hiτ 239 (by decide), hiτ 246 (by decide), hiτ 241 (by decide), hiτ 249 (by decide), hiτ 233 (by decide), hiτ 234 (by decide), hiτ 235 (by decide), hiτ 248 (by decide)]
              exact this
            refine kX_ret (i := .ireturn) (len := 1) rfl (Or.inr rfl) rfl ⟨_, rfl, mg_event L xs d' τ n b0 R S C kl _ _ _ hb _ hIτ (fun q => absurd ⟨⟨r, hr, rfl⟩, t, ht, rfl⟩ q) (fun r' t' c1 c2 c3 c4 c5 => ?_) (fun r' t' c1 c2 c3 c4 c5 c6 => ?_) (fun r' t' ev W ST' m' A c1 c2 c3 c4 c5 c6 c7 c8 c9 => ?_) (fun r' t' ev W ST' m' A c1 c2 c3 c4 c5 c6 c7 c8 c9 => ?_)⟩
            · obtain ⟨rfl, rfl⟩ := uni r' t' c1 c2 c3 c4
              rw [eC] at c5
              exact absurd hcl c5
            · obtain ⟨rfl, rfl⟩ := uni r' t' c1 c2 c3 c4
              rw [eE, her] at c6
              have := nI_inj c6
              omega
            · obtain ⟨rfl, rfl⟩ := uni r' t' c1 c2 c3 c4
              rw [eE, her] at c6
              obtain rfl : e = ev := nI_inj c6
              exact absurd hyτ c8
            · obtain ⟨rfl, rfl⟩ := uni r' t' c1 c2 c3 c4
              rw [eE, her] at c6
              obtain rfl : e = ev := nI_inj c6
              exact ⟨rfl, bJ_ev hA hr hcl her q4 ht hvr v1 hyes hJτ hneP rfl c9⟩
        · have q4 := qltF q4 e 6
          obtain rfl : e = 6 := by omega
          repeat refine kX_one rfl ?_
          refine kX_ret (i := .ireturn) (len := 1) rfl (Or.inr rfl) rfl ⟨_, rfl, mg_event L xs d' σ n b0 R S C kl _ _ _ hb _ hI (fun q => absurd ⟨⟨r, hr, rfl⟩, t, ht, rfl⟩ q) (fun r' t' c1 c2 c3 c4 c5 => ?_) (fun _ _ _ _ _ _ _ _ => ⟨rfl, hbj⟩) (fun r' t' ev W ST' m' A c1 c2 c3 c4 c5 c6 c7 => ?_) (fun r' t' ev W ST' m' A c1 c2 c3 c4 c5 c6 c7 => ?_)⟩
          · obtain ⟨rfl, rfl⟩ := uni r' t' c1 c2 c3 c4
            exact absurd hcl c5
          · obtain ⟨rfl, rfl⟩ := uni r' t' c1 c2 c3 c4
            rw [her] at c6
            have := nI_inj c6
            omega
          · obtain ⟨rfl, rfl⟩ := uni r' t' c1 c2 c3 c4
            rw [her] at c6
            have := nI_inj c6
            omega
      · have hcl : σ 250 r ≠ 0 := f3.mp (qeqF q3)
        repeat refine kX_one rfl ?_
        refine kX_ret (i := .ireturn) (len := 1) rfl (Or.inr rfl) rfl ⟨_, rfl, mg_event L xs d' σ n b0 R S C kl _ _ _ hb _ hI (fun q => absurd ⟨⟨r, hr, rfl⟩, t, ht, rfl⟩ q) (fun _ _ _ _ _ _ _ => ⟨rfl, hbj⟩) (fun r' t' c1 c2 c3 c4 c5 => ?_) (fun r' t' ev W ST' m' A c1 c2 c3 c4 c5 => ?_) (fun r' t' ev W ST' m' A c1 c2 c3 c4 c5 => ?_)⟩
        all_goals
          obtain ⟨rfl, rfl⟩ := uni r' t' c1 c2 c3 c4
          exact absurd c5 hcl
    · exact k22 (fun e => isB_ne.mpr e.2 (qneF q2))
