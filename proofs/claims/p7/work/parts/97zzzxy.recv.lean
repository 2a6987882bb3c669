/-! alike: receive -/
theorem len_4 : ∀ (l : List Nat), (∀ s ∈ l, s < 4) → l.length = l.count 0 + l.count 1 + l.count 2 + l.count 3 := by
  intro l
  induction l with
  | nil => intro _; rfl
  | cons a l ih =>
    intro hl
    have h1 := ih (fun s hs => hl s (List.mem_cons_of_mem _ hs))
    have ha := hl a List.mem_cons_self
    rw [List.length_cons, h1, List.count_cons, List.count_cons, List.count_cons, List.count_cons]
    obtain rfl | rfl | rfl | rfl : a = 0 ∨ a = 1 ∨ a = 2 ∨ a = 3 := by omega
    all_goals simp
    all_goals omega
/-- where an EVENT is left there is room in the RUN -/
theorem rcv_len {σ : kS} {n b R S s r : Nat} {ds : List Nat} (h : mTb σ n b) (hR : mRo σ n R) (hS4 : S ≤ 4) (hD : mRn σ n R S ds) (hs : s < S) (r1 : r < R) (r2 : σ 255 s = nI r) (hlt : ds.count s < fN (σ 247 r)) (hlen : 24 ≤ ds.length) : False := by
  have key : ∀ s', s' < S → ds.count s' ≤ 6 := fun s' hs' => by
    obtain ⟨r', q1, q2, q3, q4, -⟩ := hD.2.2.2 s' hs'
    obtain ⟨-, ev, e1, e2⟩ := hR.2.2.1 r' q1
    rw [e2, fN_nI (by omega)] at q4
    omega
  have h6 : ds.count s < 6 := by
    obtain ⟨-, ev, e1, e2⟩ := hR.2.2.1 r r1
    rw [e2, fN_nI (by omega)] at hlt
    omega
  have hsum : ds.length = ds.count 0 + ds.count 1 + ds.count 2 + ds.count 3 := len_4 ds (fun s' hs' => by have := hD.2.2.1 s' hs'; omega)
  have hz : ∀ s', S ≤ s' → ds.count s' = 0 := fun s' hs' => List.count_eq_zero.mpr (fun hm => by have := hD.2.2.1 s' hm; omega)
  have k : ∀ s', ds.count s' ≤ 6 := fun s' => by
    by_cases q : s' < S
    · exact key s' q
    · rw [hz s' (by omega)]
      omega
  have h0 := k 0
  have h1 := k 1
  have h2 := k 2
  have h3 := k 3
  have : s = 0 ∨ s = 1 ∨ s = 2 ∨ s = 3 := by omega
  rcases this with rfl | rfl | rfl | rfl <;> omega
set_option maxRecDepth 100000 in
set_option maxHeartbeats 4000000 in
theorem bo_receive (L : Nat) (xs : Nat → Int32) (d d' m : Nat) (σ : kS) (x y : Int32) (hm : m < 2147483646) (h : bJ m σ) : kXM kT L xs (d + 56) 125 [.ref 0, .int x, .int y] σ (fun r τ => ∃ z, r = some (.int z) ∧ kXM kT L xs (d' + 8) 197 [.ref 232, .int x, .int y] τ (fun r' ω => r' = some (.int z) ∧ bJ (m + 1) ω)) := by
  have hb := bJ_up (Nat.le_succ m) h
  obtain ⟨n, b, R, S, C, kl, h⟩ := h
  have hcT := h.2.1.1
  have hT := h.1.1
  have hn := hcT.1
  have hcS := h.2.1.2.2.1
  have hS4 := hcS.1
  have hU := h.2.2.2.2.2.2.2.1
  have hRo := h.1.2.1
  have hR4 := hRo.1
  have hgr := aT_gR hT h.2.2.1.1
  have hno1 : ¬ (isN x S ∧ isN y n) → kXM kT L xs (d' + 8) 197 [.ref 232, .int x, .int y] σ (fun r' ω => r' = some (.int (-1)) ∧ bJ (m + 1) ω) := fun hz =>
    mg_receive L xs d' σ n b R S C kl x y _ h.1 (fun _ => ⟨rfl, hb⟩) (fun z1 z2 => absurd ⟨z1, z2⟩ hz) (fun s t _ _ s1 s2 t1 t2 _ _ _ _ _ => absurd ⟨⟨s, s1, s2⟩, ⟨t, t1, t2⟩⟩ hz) (fun s t _ _ _ _ _ s1 s2 t1 t2 _ _ _ _ _ _ _ _ _ _ _ _ => absurd ⟨⟨s, s1, s2⟩, ⟨t, t1, t2⟩⟩ hz) (fun s t _ _ _ _ _ _ _ _ s1 s2 t1 t2 _ _ _ _ _ _ _ _ _ _ _ _ _ _ _ _ _ _ => absurd ⟨⟨s, s1, s2⟩, ⟨t, t1, t2⟩⟩ hz)
  unfold kXM
  iterate 3 (refine kX_one rfl ?_)
  refine kX_cal (mc_hasSession L xs (d + 54) σ S x hS4 hcS.2.1) rfl (Or.inr rfl) rfl rfl rfl (fun r1 σ1 q1 => ?_)
  obtain ⟨rfl, rfl⟩ := q1
  repeat refine kX_one rfl ?_
  refine kX_if (fun q => ?_) (fun q => ?_)
  · have q : ¬ isN x S := fun z => isB_ne.mpr z (qeq q)
    repeat refine kX_one rfl ?_
    refine kX_ret (i := .ireturn) (len := 1) rfl (Or.inr rfl) rfl (⟨_, rfl, hno1 (fun z => q z.1)⟩)
  · obtain ⟨s, hs, rfl⟩ := isB_ne.mp (qeqF q)
    iterate 3 (refine kX_one rfl ?_)
    refine kX_cal (mc_has L xs (d + 54) σ n y hn hcT.2.1) rfl (Or.inr rfl) rfl rfl rfl (fun r1 σ1 q1 => ?_)
    obtain ⟨rfl, rfl⟩ := q1
    repeat refine kX_one rfl ?_
    refine kX_if (fun q => ?_) (fun q => ?_)
    rotate_left
    · have q : ¬ isN y n := fun z => isB_ne.mpr z (qneF q)
      repeat refine kX_one rfl ?_
      refine kX_ret (i := .ireturn) (len := 1) rfl (Or.inr rfl) rfl (⟨_, rfl, hno1 (fun z => q z.2)⟩)
    · obtain ⟨t, ht, rfl⟩ := isB_ne.mp (qne q)
      repeat refine kX_one rfl ?_
      refine kX_if (fun q2 => ?_) (fun q2 => ?_)
      rotate_left
      · have q2 : σ 181 8 = 0 := qneF q2
        have hr0 : σ 232 52 = 0 := Classical.byContradiction fun z => hU.1.mpr z q2
        repeat refine kX_one rfl ?_
        refine kX_ret (i := .ireturn) (len := 1) rfl (Or.inr rfl) rfl (⟨_, rfl, ?_⟩)
        exact mg_receive L xs d' σ n b R S C kl _ _ _ h.1 (fun z => absurd ⟨⟨s, hs, rfl⟩, ⟨t, ht, rfl⟩⟩ z) (fun _ _ _ => ⟨rfl, hb⟩) (fun _ _ _ _ _ _ _ _ z _ _ _ _ => absurd (z.symm.trans hr0) (by decide)) (fun _ _ _ _ _ _ _ _ _ _ _ z _ _ _ _ _ _ _ _ _ _ _ => absurd (z.symm.trans hr0) (by decide)) (fun _ _ _ _ _ _ _ _ _ _ _ _ _ _ z _ _ _ _ _ _ _ _ _ _ _ _ _ _ _ _ _ => absurd (z.symm.trans hr0) (by decide))
      · have hon : σ 181 8 ≠ 0 := qne q2
        have hr0 : σ 232 52 ≠ 0 := hU.1.mp hon
        obtain ⟨hr1, ds, hD, hBi, -⟩ := mI_ds h.1 hr0
        obtain ⟨uc, um, uv, uo, -⟩ := hU.2 hr0
        obtain ⟨r, r1, r2, r3, r4, -⟩ := hD.2.2.2 s hs
        obtain ⟨-, ev, ev1, ev2⟩ := hRo.2.2.1 r r1
        have hfe : fN (σ 247 r) = ev := by rw [ev2]; exact fN_nI (by omega)
        have hR1 := h.2.2.2.1 r r1
        have hr4 : r < 4 := by omega
        have hlenD := mRn_len hRo hS4 hD
        have hat : σ 182 (0 + 7 * s) = nI (ds.count s) := by rw [Nat.zero_add]; exact (uv s hs).1.trans r3
        have hno : ¬ (ds.count s < fN (σ 247 r) ∧ σ 249 (6 * r + ds.count s) = 0 ∧ tgd (σ 233) (σ 234) (σ 235) t = true) → kXM kT L xs (d' + 8) 197 [.ref 232, .int (nI s), .int (nI t)] σ (fun r' ω => r' = some (.int (-5)) ∧ bJ (m + 1) ω) := fun hz => by
          refine mg_receive L xs d' σ n b R S C kl _ _ _ h.1 (fun z => absurd ⟨⟨s, hs, rfl⟩, ⟨t, ht, rfl⟩⟩ z) (fun _ _ z => absurd z hr0) (fun _ _ _ _ _ _ _ _ _ _ _ _ _ => ⟨rfl, hb⟩) (fun s' t' ds' r' _ _ _ hs' es ht' et _ hD' _ er g1 g2 g3 _ _ _ _ _ => ?_) (fun s' t' ds' r' _ _ _ _ _ _ hs' es ht' et _ hD' _ er g1 g2 g3 _ _ _ _ _ _ _ _ _ _ _ => ?_)
          · obtain rfl : s = s' := nI_inj es
            obtain rfl : t = t' := nI_inj et
            obtain rfl : ds = ds' := mRn_u hRo hS4 hD hD'
            obtain rfl : r = r' := nI_inj (r2.symm.trans er)
            exact absurd ⟨g1, g2, g3⟩ hz
          · obtain rfl : s = s' := nI_inj es
            obtain rfl : t = t' := nI_inj et
            obtain rfl : ds = ds' := mRn_u hRo hS4 hD hD'
            obtain rfl : r = r' := nI_inj (r2.symm.trans er)
            exact absurd ⟨g1, g2, g3⟩ hz
        iterate 7 (refine kX_one rfl ?_)
        refine kX_cal (mf_due L xs (d + 53) σ n R S 182 28 0 s r ev (fun _ => 0) h.2.1.2.1 hS4 r1 ((h.2.2.2.2.1 s hs).1.trans r2) (hR1.2.1.trans ev2) hs ev1 rfl (by decide) (by decide)) rfl (Or.inr rfl) rfl rfl rfl (fun r1' σ1 q1 => ?_)
        obtain ⟨hq, rfl⟩ := q1
        rcases hq with ⟨rfl, hn0⟩ | ⟨k, k1, k2, rfl, -⟩
        · repeat refine kX_one rfl ?_
          refine kX_ret (i := .ireturn) (len := 1) rfl (Or.inr rfl) rfl (⟨_, rfl, hno (fun z => hn0 (ds.count s) (by rw [← hfe]; exact z.1) hat)⟩)
        obtain rfl : k = ds.count s := nI_inj (k2.symm.trans hat)
        have hk6 : ds.count s < 6 := by omega
        have hlt : ds.count s < fN (σ 247 r) := by rw [hfe]; exact k1
        have hE := hR1.2.2.2.2 (ds.count s) hlt
        obtain ⟨te, te1, te2, te3, te4⟩ := hRo.2.2.2.2.2 r (ds.count s) r1 hlt
        iterate 4 (refine kX_one rfl ?_)
        refine kX_getN rfl rfl (kT_ev hr4 hk6) rfl ?_
        repeat refine kX_one rfl ?_
        refine kX_if (fun q3 => ?_) (fun q3 => ?_)
        · have hsd : σ 249 (6 * r + ds.count s) ≠ 0 := hE.2.1.mp (qne q3)
          repeat refine kX_one rfl ?_
          refine kX_ret (i := .ireturn) (len := 1) rfl (Or.inr rfl) rfl (⟨_, rfl, hno (fun z => hsd z.2.1)⟩)
        have hsd : σ 249 (6 * r + ds.count s) = 0 := Classical.byContradiction fun z => hE.2.1.mpr z (qneF q3)
        iterate 4 (refine kX_one rfl ?_)
        refine kX_baldV rfl rfl (by decide) (t) (by first | rfl | decide) (by omega) (hgr t ht) ?_
        repeat refine kX_one rfl ?_
        refine kX_if (fun q4 => ?_) (fun q4 => ?_)
        · have q4 : ¬ kGd σ t := fun z => isB_ne.mpr z (qeq q4)
          unfold kGd at q4
          rw [aT_gd hT h.2.2.1.1 ht] at q4
          repeat refine kX_one rfl ?_
          refine kX_ret (i := .ireturn) (len := 1) rfl (Or.inr rfl) rfl (⟨_, rfl, hno (fun z => q4 z.2.2)⟩)
        have q4 : kGd σ t := isB_ne.mp (qeqF q4)
        have hgt : tgd (σ 233) (σ 234) (σ 235) t = true := by
          rw [← aT_gd hT h.2.2.1.1 ht]
          exact q4
        have ref : ∀ (π : kS) (Q : Option Value → kS → Prop), (∀ c, 232 ≤ c → π c = σ c) → (∀ b' σ', (¬ trM σ (trRun σ kl ds) (tvl (σ 233) (σ 234) (σ 235) t) ∨ mtF σ (te + 1) te t (fun k => σ 265 (6 * s + k)) = none) → mFr π σ' n → mI σ' n b' R S C kl → Q (some (.int (-5))) σ') → (∀ b' ρ V a mm, trM σ (trRun σ kl ds) (tvl (σ 233) (σ 234) (σ 235) t) → mtF σ (te + 1) te t (fun k => σ 265 (6 * s + k)) = some a → ds.length < 24 → (∀ k, ¬ σ 265 (6 * s + k) < 0 → a k = σ 265 (6 * s + k)) → mFr π ρ n → mI ρ n b' R S C kl → (∀ j, (∀ k, k < 6 → j ≠ 6 * s + k) → V j = σ 265 j) → (∀ k, k < 6 → V (6 * s + k) = a k) → mI (stS ρ V s ds.length (ds.count s) (nI mm)) n b' R S C kl → Q (some (.int (nI (ds.count s + 1)))) (stS ρ V s ds.length (ds.count s) (nI mm))) → kXM kT L xs (d' + 8) 197 [.ref 232, .int (nI s), .int (nI t)] π Q := by
          intro π Q e hB hA
          have hIp := mI_hi e h.1
          have eD : mRn π n R S ds := mRn_hi e hD
          have em : ∀ f p t a, mtF π f p t a = mtF σ f p t a := mtF_c (eqC_of e _ (by decide))
          have et : trRun π kl ds = trRun σ kl ds := trRun_hi e
          have eM : ∀ g, trM π (trRun π kl ds) g = trM σ (trRun σ kl ds) g := fun g => by
            unfold trM mA
            rw [et, e 233 (by decide), e 238 (by decide)]
          refine mg_receive L xs d' π n b R S C kl _ _ _ hIp (fun z => absurd ⟨⟨s, hs, rfl⟩, ⟨t, ht, rfl⟩⟩ z) (fun _ _ z => absurd ((congrFun (e 232 (by decide)) _).symm.trans z) hr0) (fun s' t' ds' r' hs' es ht' et' _ hD' _ er hz => ?_) (fun s' t' ds' r' te' b' σ' hs' es ht' et' _ hD' _ er _ _ _ _ ete hz hF hI => ?_) (fun s' t' ds' r' te' b' ρ V a mm hs' es ht' et' _ hD' _ er _ _ _ _ ete hz hmt hln hkk hF hI hV1 hV2 hI2 => ?_)
          · obtain rfl : s = s' := nI_inj es
            obtain rfl : t = t' := nI_inj et'
            obtain rfl : ds = ds' := mRn_u hIp.2.1 hS4 eD hD'
            rw [e 255 (by decide)] at er
            obtain rfl : r = r' := nI_inj (r2.symm.trans er)
            rw [e 247 (by decide), e 249 (by decide), e 233 (by decide), e 234 (by decide), e 235 (by decide)] at hz
            exact absurd ⟨hlt, hsd, hgt⟩ hz
          · obtain rfl : s = s' := nI_inj es
            obtain rfl : t = t' := nI_inj et'
            obtain rfl : ds = ds' := mRn_u hIp.2.1 hS4 eD hD'
            rw [e 255 (by decide)] at er
            obtain rfl : r = r' := nI_inj (r2.symm.trans er)
            rw [e 248 (by decide)] at ete
            obtain rfl : te = te' := nI_inj (te2.symm.trans ete)
            rw [eM, em, e 233 (by decide), e 234 (by decide), e 235 (by decide), e 265 (by decide)] at hz
            exact hB b' σ' hz hF hI
          · obtain rfl : s = s' := nI_inj es
            obtain rfl : t = t' := nI_inj et'
            obtain rfl : ds = ds' := mRn_u hIp.2.1 hS4 eD hD'
            rw [e 255 (by decide)] at er
            obtain rfl : r = r' := nI_inj (r2.symm.trans er)
            rw [e 248 (by decide)] at ete
            obtain rfl : te = te' := nI_inj (te2.symm.trans ete)
            rw [eM, e 233 (by decide), e 234 (by decide), e 235 (by decide)] at hz
            rw [em, e 265 (by decide)] at hmt
            rw [e 265 (by decide)] at hkk hV1
            exact hA b' ρ V a mm hz hmt hln hkk hF hI hV1 hV2 hI2
        iterate 2 (refine kX_one rfl ?_)
        refine kX_cal (mf_intruder L xs d σ σ n b R S C m kl ds (vw_refl σ) h hm hr0 hD) rfl (Or.inr rfl) rfl rfl rfl (fun r1' τ q1 => ?_)
        obtain ⟨rfl, u, m', l, hm', hQ⟩ := q1
        have hEt := hQ.2.2.2.1
        have hgd : kGd τ t := by
          have h2 := hQ.2.2.2.2.2.1 t ht
          rw [inQ_cell hQ (c := 8) (by decide) (by decide) (by decide) (by decide), hgr t ht, isB_T q4] at h2
          exact isB_1.mp h2.symm
        iterate 2 (refine kX_one rfl ?_)
        refine kX_cal (mf_canMake L xs 186 200 n u m' l 49 (d + 4) 0 τ t rfl (by have := hEt.2.2.2.2.2.2.2.2.1 t ht; omega) hEt (Or.inl ht) hgd) rfl (Or.inr rfl) rfl rfl rfl (fun r1' ω q1 => ?_)
        obtain ⟨rfl, M, hω, hE2⟩ := q1
        subst hω
        have hQ2 := inQ_mk hQ hE2
        have hJ2 := inQ_J h hr0 hD hQ2 hm'
        have e : ∀ c, 232 ≤ c → va_up τ 192 M c = σ c := fun c hc => inQ_cell hQ2 (by omega) (by omega) (by omega) (by omega)
        have hkk := kMk_tr hT hQ ht
        have hcell : va_up τ 192 M (28 + 35 * r + 5 * ds.count s) = σ (28 + 35 * r + 5 * ds.count s) := inQ_cell hQ2 (by omega) (by omega) (by omega) (by omega)
        generalize va_up τ 192 M = ω at hQ2 hJ2 e hcell ⊢
        by_cases hmk : kMk τ l t
        rotate_left
        · rw [isB_F hmk]
          repeat refine kX_one rfl ?_
          refine kX_ret (i := .ireturn) (len := 1) rfl (Or.inr rfl) rfl (⟨_, rfl, ref ω _ e (fun b' σ' _ hF hI => ⟨rfl, bJ_fr hJ2 (mLow_fr hF) hF hI⟩) (fun _ _ _ _ _ hz => absurd (hkk.mpr hz) hmk)⟩)
        rw [isB_T hmk]
        have hrω : ω 232 52 ≠ 0 := by rw [e 232 (by decide)]; exact hr0
        have hDω := mRn_hi e hD
        iterate 6 (refine kX_one rfl ?_)
        refine kX_cal (mf_accepts L xs (d + 3) ω n b S s r (ds.count s) te t hJ2.2.1.1 hJ2.1.1 hJ2.2.2.1.1 hS4 hs hr4 hk6 ht te1 (by rw [e 233 (by decide), e 234 (by decide), e 235 (by decide)]; exact hgt) (by rw [hcell]; exact hE.1.trans te2) (fun k hk => aU_tr hJ2 hrω hs hk)) rfl (Or.inr rfl) rfl rfl rfl (fun r1' ρ q1 => ?_)
        obtain ⟨hρ, hq⟩ := q1
        have eρ : ∀ c, 232 ≤ c → ρ c = σ c := fun c hc => (hρ c (by omega) (by omega)).trans (e c hc)
        have emt : mtF ω (te + 1) te t (fun k => ω 265 (6 * s + k)) = mtF σ (te + 1) te t (fun k => σ 265 (6 * s + k)) := by rw [mtF_c (eqC_of e _ (by decide)), e 265 (by decide)]
        rw [emt] at hq
        rcases hq with ⟨hmt, rfl, hat0⟩ | ⟨a, hmt, rfl, hat1, hat2⟩
        · have eρω : ∀ c, c ≠ 185 → ρ c = ω c := fun c hc => by
            by_cases z : c = 182
            · subst z
              exact hat0
            · exact hρ c hc z
          have hJ3 : aJ ρ n b R S C kl (m + 1) := by
            have hU3 : aU ρ n S kl := by
              have hU2 := hJ2.2.2.2.2.2.2.2.1
              unfold aU at hU2 ⊢
              rw [eρω 181 (by decide), eρω 17 (by decide), eρω 183 (by decide), eρω 182 (by decide), eρω 232 (by decide), eρω 274 (by decide), eρω 264 (by decide), eρω 265 (by decide)]
              refine ⟨hU2.1, fun q => ?_⟩
              obtain ⟨g1, g2, g3, g5, g4⟩ := hU2.2 q
              refine ⟨g1, g2, g3, g5, fun hg => ?_⟩
              obtain ⟨ds', d1, d2, d4, d5, d3⟩ := g4 hg
              refine ⟨ds', d1, d2, d4, d5, ?_⟩
              rw [trRun_hi (fun c hc => eρω c (by omega))]
              exact kOk_eq (fun c c1 c2 => eρω c (by omega)) (fun c c1 c2 => eρω c (by omega)) (fun t _ => by rw [eρω 233 (by decide)]) (eρω _ (by decide)) d3
            refine aJ_run2 hJ2 (mI_hi (fun c hc => hρ c (by omega) (by omega)) hJ2.1) ?_ (fun c hc => hρ c (by omega) (by omega)) (fun c c1 _ _ _ _ => hρ c (by omega) (by omega)) (fun j _ _ _ => by rw [hρ 232 (by decide) (by decide)]) hU3
            refine cJ_run hJ2.2.1 (fun c hc => hρ c (by omega) (by omega)) ?_
            have hRu := hJ2.2.1.2.2.2.2.2.2.2.2.1
            unfold cRu at hRu ⊢
            rw [eρω 181 (by decide), eρω 183 (by decide), eρω 182 (by decide), eρω 186 (by decide)]
            unfold cV cKg cKc at hRu ⊢
            rw [eρω 8 (by decide), eρω 3 (by decide), eρω 4 (by decide)]
            exact hRu
          repeat refine kX_one rfl ?_
          refine kX_ret (i := .ireturn) (len := 1) rfl (Or.inr rfl) rfl (⟨_, rfl, ref ρ _ eρ (fun b' σ' _ hF hI => ⟨rfl, bJ_fr hJ3 (mLow_fr hF) hF hI⟩) (fun _ _ _ a _ _ hz => absurd (hmt.symm.trans hz) (by simp))⟩)
        · obtain ⟨b1, b2, b3⟩ := mSn_iff hT hRo (hD.2.2.2 s hs) r2 r1
          obtain ⟨k1', k2', -, -⟩ := mtF_ok hT hRo r1 (te + 1) te t _ a te1 ht hgt te3 (fun k hk hne => by
            by_cases hb' : bdv σ r (ds.count s) k
            · exact (b3 k hk).1 hb'
            · exact absurd (by rw [(b3 k hk).2 hb']; decide) hne) hmt
          have egr : ω 8 = σ 8 := inQ_cell hQ2 (by decide) (by decide) (by decide) (by decide)
          have hRu := hJ2.2.1.2.2.2.2.2.2.2.2.1
          have honω : ω 181 8 ≠ 0 := by rw [hQ2.2.1 _ (by decide)]; exact hon
          have e181 : ρ 181 = ω 181 := hρ _ (by decide) (by decide)
          rcases hRu with hRu | ⟨on1, cnt, hcV, hgf⟩
          · exact absurd hRu honω
          have hcV2 : cV ω n S (ρ 182) 0 := fun s' k' hs' hk' => by
            rw [show 0 + 7 * s' + 1 + k' = 7 * s' + 1 + k' by omega]
            by_cases z : s' = s
            · subst z
              rcases hat1 k' hk' with q | ⟨w, w1, w2, w3⟩
              · exact Or.inl q.1
              · refine Or.inr ⟨w, w1, w2, ?_⟩
                obtain ⟨w', v1, v2, v3, -⟩ := k2' k' hk' (by rw [w3]; exact nI_pos (by omega))
                obtain rfl : w = w' := nI_inj (w3.symm.trans v2)
                rw [egr, hgr w w1]
                refine isB_T ?_
                unfold kGd
                rw [aT_gd hT h.2.2.1.1 w1]
                exact v3
            · rw [hat2 (7 * s' + 1 + k') (fun k hk => by omega)]
              have := hcV s' k' hs' hk'
              rw [show 0 + 7 * s' + 1 + k' = 7 * s' + 1 + k' by omega] at this
              exact this
          have eρω : ∀ c, c < 181 ∨ 186 ≤ c → ρ c = ω c := fun c hc => hρ c (by omega) (by omega)
          have hgrω : ∀ z, z < n → ρ 8 z = ω 8 z := fun z _ => by rw [eρω _ (by decide)]
          have hJρ : cJ ρ n R S C := by
            refine cJ_run hJ2.2.1 eρω (Or.inr ⟨by rw [e181]; exact on1, by rw [e181, hρ 183 (by decide) (by decide)]; exact cnt, cV_eq hgrω hcV2, ?_⟩)
            rw [e181, eρω 186 (by decide)]
            rcases hgf with z | ⟨g, z1, z2, z3⟩
            · exact Or.inl z
            · refine Or.inr ⟨g, z1, z2, fun hg => ?_⟩
              obtain ⟨u, u1, u2, u3⟩ := z3 hg
              exact ⟨u, u1, u2, cKg_eq hgrω (fun g _ _ => by rw [eρω 3 (by decide), eρω 4 (by decide)]; exact ⟨rfl, rfl⟩) u3⟩
          have hUω := (hJ2.2.2.2.2.2.2.2.1.2 hrω)
          have hlen24 : ds.length < 24 := by
            exact Classical.byContradiction fun hz => rcv_len hT hRo hS4 hD hs r1 r2 hlt (by omega)
          iterate 4 (refine kX_one rfl ?_)
          refine kX_cal (mf_step L xs (d + 54) ρ n R S C s ds.length hJρ (by rw [e181]; exact honω) hs hlen24 (by rw [e181, hUω.1]; exact (congrFun (e 232 (by decide)) _).trans hD.1)) rfl (Or.inr rfl) rfl rfl rfl (fun r1' π q1 => ?_)
          obtain ⟨rfl, hπ, hJπ⟩ := q1
          iterate 7 (refine kX_one rfl ?_)
          refine kX_cal (mc_doneBy L xs (d + 54) π 182 28 0 s (fun _ => 0) rfl (by decide) (by omega)) rfl (Or.inr rfl) rfl rfl rfl (fun r1 σ1 q1 => ?_)
          obtain ⟨rfl, rfl⟩ := q1
          have hv7 : π 182 (0 + 7 * s) = nI (ds.count s + 1) := by
            rw [hπ, Nat.zero_add]
            show upd (ρ 182) (7 * s) (ρ 182 (7 * s) + Int32.ofInt 1) (7 * s) = _
            rw [pk_us, hat2 (7 * s) (fun k hk => by omega), (hUω.2.2.1 s hs).1, e 264 (by decide), r3, ← nI_1]
            rfl
          have eπ : ∀ c, 232 ≤ c → π c = σ c := fun c hc => by
            rw [hπ]
            unfold spS
            rw [up_ne (by omega), up_ne (by omega), up_ne (by omega)]
            exact eρ c hc
          refine kX_top (y := nI (ds.count s + 1)) hv7 ?_
          refine kX_ret (i := .ireturn) (len := 1) rfl (Or.inr rfl) rfl (⟨_, rfl, ref π _ eπ (fun b' σ' hz _ _ => ?_) (fun b' ρ' V a' mm _ hmt' _ hkk' hF hI hV1 hV2 hI2 => ?_)⟩)
          · rcases hz with hz | hz
            · exact absurd (hkk.mp hmk) hz
            · exact absurd (hmt.symm.trans hz) (by simp)
          · obtain rfl : a = a' := Option.some.inj (hmt.symm.trans hmt')
            refine ⟨rfl, ⟨n, b', R, S, C, kl, aJ_recv (σ := ρ) (ω := π) (r := r) (k := 0) hJ2 hrω hDω hs hlen24 hρ hat1 hat2 hπ hJπ hF hI (by rw [e 265 (by decide)]; exact hV1) hV2 (by rw [e 265 (by decide)]; exact hkk') (by rw [e 264 (by decide)]; exact r3) hI2⟩⟩
