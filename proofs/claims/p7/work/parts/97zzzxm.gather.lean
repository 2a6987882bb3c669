/-! alike: gather -/
theorem trSn_1 {σ : kS} {ds : List Nat} {tr : trT} {i s c : Nat} (h : i < ds.length) (hs : ds[i]'h = s) (hc : (ds.take i).count s = c) : trSn σ ds tr (i + 1) = cit (σ 249 (mEv σ s c) ≠ 0) (trA (trSn σ ds tr i) (tin σ s (fN (σ 248 (mEv σ s c)))) (nI 1) (-6)) (trSn σ ds tr i) := by
  have e : ds.getD i 0 = s := by rw [List.getD_eq_getElem?_getD, List.getElem?_eq_getElem h, ← hs]; rfl
  rw [trSn, e, hc]
theorem cnt_take {ds : List Nat} {i s : Nat} (h : i < ds.length) (hs : ds[i]'h = s) (z : Nat) : (ds.take (i + 1)).count z = (ds.take i).count z + if z = s then 1 else 0 := by
  rw [List.take_succ_eq_append_getElem h, List.count_append, hs, List.count_singleton]
  by_cases e : z = s
  · rw [if_pos e, if_pos (by simp [e])]
  · rw [if_neg e, if_neg (by simp; exact fun q => e q.symm)]
/-- the values of a session, as the class has them -/
theorem kSt_run {σ τ : kS} {n b s t A base : Nat} (hT : mTb σ n b) (hA : ∀ t, t < n → aT1 σ t) (ht : t < n) (hs : mSt σ n s t) (hv : ∀ k, k < 6 → nnI (τ A (base + k)) = σ 265 (6 * s + k)) (e1 : τ 12 = σ 12) (e2 : τ 11 = σ 11) (e3 : ∀ z, z < n → τ 2 z = σ 2 z ∧ τ 3 z = σ 3 z ∧ τ 4 z = σ 4 z) : kSt τ n A base (fun v => tvl (σ 233) (σ 234) (σ 235) (mVl σ s v)) t ∧ tW τ (fun v => tvl (σ 233) (σ 234) (σ 235) (mVl σ s v)) t = tin σ s t := by
  have hn := hT.1
  have hA' : ∀ {α : Type} {lf lf' : Nat → α} {nd : Nat → α → Option α → α} (_ : ∀ t, t < n → lf' t = lf t) {t : Nat} (_ : t < n), tA lf' nd (τ 2) (τ 3) (τ 4) t = tA lf nd (σ 233) (σ 234) (σ 235) t := fun hl t ht =>
    tA_congr (mTb_num hT) (fun t ht => by obtain ⟨a, b, c, -⟩ := hA t ht; obtain ⟨x, y, z⟩ := e3 t ht; exact ⟨x.trans a, y.trans b, z.trans c, hl t ht⟩) t ht
  have hk : ∀ t, t < n → τ 2 t = σ 233 t := fun t ht => (e3 t ht).1.trans (hA t ht).1
  refine ⟨fun v hvt => ?_, hA' (fun t ht => by rw [hk t ht]) ht⟩
  have hvs : kVs τ t = tvs (σ 233) (σ 234) (σ 235) t := hA' (fun t ht => by rw [hk t ht]) ht
  rw [hvs] at hvt
  obtain ⟨hv1, hv2, -⟩ := tvs_mem (mTb_num hT) t ht v hvt
  obtain ⟨p, z, z1, z2, z3, z4, z5, z6⟩ := hs v hvt
  obtain ⟨-, -, -, -, -, -, x7⟩ := hA v hv1
  obtain ⟨-, x8, x9⟩ := x7 hv2
  refine ⟨p, z, z1, z2, by rw [e1, x9]; exact z3, ?_, ?_, ?_, fun q => ?_⟩
  · have := hv p z1
    rw [z4] at this
    unfold nnI at this
    split at this
    · exact absurd (show nI z < 0 by rw [← this]; decide) (nI_pos (by omega))
    · exact this
  · unfold kGd tgd
    rw [hA' (lf := fun t => decide (σ 233 t ≠ nI 3)) (fun t ht => by rw [hk t ht]) z2]
    exact z5
  · have e : kTv τ z = tvl (σ 233) (σ 234) (σ 235) z := hA' (fun _ _ => rfl) z2
    rw [e]
    dsimp only
    unfold mVl
    rw [z3, fN_nI (by omega), z4, fN_nI (by omega)]
  · rw [e2, x8] at q
    rw [hk z z2]
    exact z6 q
/-- gathered -/
def gaP (σ σ' : kS) (n m : Nat) (tr : trT) : Prop := ∃ u l, gI σ σ' n u m l ∧ σ' 186 13 = 1 ∧ kTr σ' l = tr
/-- υ is σ with another RUN of the reference -/
def vw (σ υ : kS) : Prop := (∀ c, c ≠ 232 → c ≠ 264 → c ≠ 265 → c ≠ 274 → c ≠ 275 → υ c = σ c) ∧ ∀ j, j ≠ 52 → j ≠ 55 → j ≠ 47 → υ 232 j = σ 232 j
theorem vw_refl (σ : kS) : vw σ σ := ⟨fun _ _ _ _ _ _ => rfl, fun _ _ _ _ => rfl⟩
theorem vw_low {σ υ : kS} (h : vw σ υ) {c : Nat} (hc : c < 232) : υ c = σ c := h.1 c (by omega) (by omega) (by omega) (by omega) (by omega)
theorem vw_c {σ υ : kS} (h : vw σ υ) (l : List Nat) (hl : l.all (fun c => decide (c ≠ 232 ∧ c ≠ 264 ∧ c ≠ 265 ∧ c ≠ 274 ∧ c ≠ 275)) = true) : eqC υ σ l := eqC_of (fun c q => (h.1 c q.1 q.2.1 q.2.2.1 q.2.2.2.1 q.2.2.2.2).symm) l hl
theorem vw_Tb {σ υ : kS} {n b : Nat} (h : vw σ υ) (hT : mTb υ n b) : mTb σ n b := by
  have e := vw_c h [233, 234, 235, 236, 237, 240, 242, 243] (by decide)
  unfold mTb mAG mpt at hT ⊢
  rw [e 233 (by decide), e 234 (by decide), e 235 (by decide), e 236 (by decide), e 237 (by decide), e 240 (by decide), e 242 (by decide), e 243 (by decide), ← h.2 9 (by decide) (by decide) (by decide), ← h.2 10 (by decide) (by decide) (by decide)]
  exact hT
theorem vw_Kn {σ υ : kS} {n : Nat} {kl : List Nat} (h : vw σ υ) (hT : mKn υ n kl) : mKn σ n kl := by
  have e := vw_c h [233, 234, 235, 254] (by decide)
  unfold mKn at hT ⊢
  rw [e 233 (by decide), e 234 (by decide), e 235 (by decide), e 254 (by decide), ← h.2 26 (by decide) (by decide) (by decide)]
  exact hT
theorem vw_trKn {σ υ : kS} {kl : List Nat} (h : vw σ υ) : trKn σ kl = trKn υ kl := by
  have e := vw_c h [233, 234, 235] (by decide)
  unfold trKn
  rw [e 233 (by decide), e 234 (by decide), e 235 (by decide)]
set_option maxRecDepth 100000 in
set_option maxHeartbeats 4000000 in
theorem mf_gather (L : Nat) (xs : Nat → Int32) (d : Nat) (σ υ : kS) (n b R S C m : Nat) (kl ds : List Nat) (hv : vw σ υ) (h : aJ υ n b R S C kl m) (hm : m < 2147483646) (hr0 : υ 232 52 ≠ 0) (hD : mRn υ n R S ds) : kXM kT L xs (d + 54) 68 [.ref 181] σ (fun r σ' => r = none ∧ ∃ m', m' ≤ m + 1 ∧ gaP σ σ' n m' (trRun υ kl ds)) := by
  have hK : isK 186 200 := Or.inl ⟨rfl, rfl⟩
  obtain ⟨hI, hJ, hA, aR', aS', aC', aK', aU', aF', m1, m2, m3, hm1, -, -, hM, -, -⟩ := h
  obtain ⟨hTv, hRo, hSe, hKn, -⟩ := hI
  have hT := vw_Tb hv hTv
  have hKnv := vw_Kn hv hKn
  have hAv := hA
  have hA : aT σ n := aT_c (fun c c1 c2 => (vw_low hv (by omega)).symm) (vw_c hv _ (by decide)) hAv
  have hlo : ∀ c, c < 232 → υ c = σ c := fun c hc => vw_low hv hc
  obtain ⟨hcT, hcRo, hcSe, -, -, hKw, -⟩ := cJ_low (fun c hc => (hlo c hc).symm) hJ
  have hM := kMs_eq (fun c c1 c2 => (hlo c (by omega)).symm) hM
  have aK' : aK σ kl := aK_eq (by rw [hlo 13 (by decide)]) (hlo _ (by decide)).symm aK'
  have hn := hT.1
  have hS4 := hSe.1
  have hR4 := hRo.1
  have hlen := mRn_len hRo hS4 hD
  obtain ⟨uc, um, uv, -⟩ := aU'.2 hr0
  rw [hlo 181 (by decide)] at uc
  rw [hlo 183 (by decide)] at um
  rw [hlo 182 (by decide)] at uv
  obtain ⟨u0, hB0, hR0, he0⟩ := cKw_n hK hcT hKw
  have hfd : fN (υ 232 55) = ds.length := by rw [hD.1]; exact fN_nI (by omega)
  unfold kXM
  iterate 4 (refine kX_one rfl ?_)
  refine kX_cal (mf_beginKn L xs (d + 50) σ 186 200 n b u0 m1 kl hB0 he0 hT hA hM (by omega) aK' hKnv) rfl (Or.inr rfl) rfl rfl rfl (fun r1 ρ q1 => ?_)
  obtain ⟨rfl, hF0, l0, hE0, hC0, hG0, hTr0, hw0⟩ := q1
  iterate 3 (refine kX_one rfl ?_)
  refine kX_cal (kX_fill (T := kT) L xs (d + 52) 0 ρ (a := 184) (n := 4) (g0 := fun _ => 0) rfl (by decide)) rfl (Or.inr rfl) rfl rfl rfl (fun r1 σ1 q1 => ?_)
  obtain ⟨rfl, rfl⟩ := q1
  have e184 : ρ 184 = σ 184 := hF0.1.1 _ (by decide) (by decide) (by decide) (by decide) (by decide) (by decide)
  have hgI0 : gI σ ρ n 0 (m1 + 1) l0 := ⟨by rw [e184, kup_self]; exact hF0, hE0, hC0, hG0⟩
  have loop : ∀ q : Nat × kS × Nat × rwT, (q.1 ≤ ds.length ∧ gI σ q.2.1 n q.2.2.1 (m1 + 1) q.2.2.2 ∧ q.2.2.1 ≤ 24 * q.1 ∧ q.2.1 186 13 = 0 ∧ kTr q.2.1 q.2.2.2 = trSn υ ds (trKn υ kl) q.1 ∧ ∀ s, s < 4 → q.2.1 184 s = nI ((ds.take q.1).count s)) → kX kT L xs (d + 54) 68 21 [(1, .int (nI q.1)), (0, .ref 181)] [] q.2.1 (fun r σ' => r = none ∧ ∃ m', m' ≤ m + 1 ∧ gaP σ σ' n m' (trRun υ kl ds)) := by
    refine kX_while (fun q : Nat × kS × Nat × rwT => [(1, .int (nI q.1)), (0, .ref 181)]) (fun q => q.2.1) _ (fun q => ds.length - q.1) ?_
    rintro ⟨i, τ, u, l⟩ ⟨i1, i2, i3, i4, i5, i6⟩ ih
    dsimp only at i1 i2 i3 i4 i5 i6 ih ⊢
    iterate 3 (refine kX_one rfl ?_)
    refine kX_top (y := nI ds.length) (by rw [gI_cell i2 (c := 181) (by decide) (by decide) (by decide)]; exact uc.trans hD.1) ?_
    repeat refine kX_one rfl ?_
    refine kX_if (fun q => ?_) (fun q => ?_)
    · have q := qge q i ds.length
      obtain rfl : i = ds.length := by omega
      iterate 2 (refine kX_one rfl ?_)
      refine kX_cal (mf_takeApart L xs d τ 186 200 n u (m1 + 1) l i2.2.1 i4) rfl (Or.inr rfl) rfl rfl rfl (fun r1 σ1 q1 => ?_)
      obtain ⟨rfl, l', t1, t2, t3, t4⟩ := q1
      refine kX_ret (i := .return_) (len := 1) rfl (Or.inr rfl) rfl ⟨rfl, m1 + 1, by omega, u, l', ⟨?_, t1, cCn_P hK t3 i2.2.2.1, gR_P hK t3 i2.2.2.2⟩, t2, ?_⟩
      · rw [t3.1 184 (by decide)]
        exact nF2_trans i2.1 (nF2_P hK t3)
      · rw [t4, i5]
        have e1 : τ 238 = υ 238 := (gI_cell i2 (by decide) (by decide) (by decide)).trans (hv.1 _ (by decide) (by decide) (by decide) (by decide) (by decide)).symm
        have e2 : mA τ = mA υ := by
          funext t
          unfold mA
          rw [gI_cell i2 (c := 233) (by decide) (by decide) (by decide), hv.1 233 (by decide) (by decide) (by decide) (by decide) (by decide)]
        rw [e1, e2]
        rfl
    · have q := qgeF q i ds.length
      obtain ⟨s, hs⟩ : ∃ s, ds[i]'q = s := ⟨_, rfl⟩
      have hsS : s < S := hs ▸ hD.2.2.1 _ (List.getElem_mem q)
      have hs4 : s < 4 := by omega
      obtain ⟨c0, hc0⟩ : ∃ c0, (ds.take i).count s = c0 := ⟨_, rfl⟩
      have hcn : c0 + 1 ≤ ds.count s := by
        have := count_take_le ds s (i + 1)
        rw [cnt_take q hs, if_pos rfl, hc0] at this
        exact this
      obtain ⟨r, r1, r2, r3, r4, -, r6, -⟩ := hD.2.2.2 s hsS
      obtain ⟨-, ev, ev1, ev2⟩ := hRo.2.2.1 r r1
      have hfe : fN (υ 247 r) = ev := by rw [ev2]; exact fN_nI (by omega)
      rw [hfe] at r4
      have hR1 := aR' r r1
      have hr4 : r < 4 := by omega
      have hE := hR1.2.2.2.2 c0 (by rw [hfe]; omega)
      obtain ⟨t, t1, t2, -⟩ := hRo.2.2.2.2.2 r c0 r1 (by rw [hfe]; omega)
      have hft : fN (υ 248 (6 * r + c0)) = t := by rw [t2]; exact fN_nI (by omega)
      have hfr : fN (υ 255 s) = r := by rw [r2]; exact fN_nI (by omega)
      have hcRo2 : cRo τ n R := cRo_gr (Nat.le_refl _) (fun e e1 e2 => gI_cell i2 (by omega) (by omega) (by omega)) hcRo
      have hmv : τ 183 i = nI s := by
        rw [gI_cell i2 (c := 183) (by decide) (by decide) (by decide), um i (by rw [hfd]; exact q), hD.2.1 i q, hs]
      have htr : trSn υ ds (trKn υ kl) (i + 1) = cit (υ 249 (6 * r + c0) ≠ 0) (trA (trSn υ ds (trKn υ kl) i) (tin υ s t) (nI 1) (-6)) (trSn υ ds (trKn υ kl) i) := by
        rw [trSn_1 q hs hc0]
        unfold mEv
        rw [hfr, hft]
      have htn : ∀ z, z < 4 → upd (τ 184) s (nI (c0 + 1)) z = nI ((ds.take (i + 1)).count z) := fun z hz => by
        rw [cnt_take q hs]
        by_cases e : z = s
        · subst e
          rw [pk_us, if_pos rfl, hc0]
        · rw [pk_un e, if_neg e]
          exact i6 z hz
      have k101 : ∀ τ' u' l', gI σ τ' n u' (m1 + 1) l' → u' ≤ 24 * (i + 1) → τ' 186 13 = 0 → kTr τ' l' = trSn υ ds (trKn υ kl) (i + 1) → τ' 184 = upd (τ 184) s (nI (c0 + 1)) → ∀ lv, nk lv = true → ([(1, .int (nI i)), (0, .ref 181)] : jL).map (fun q => jl lv q.1) = ([(1, Value.int (nI i)), (0, .ref 181)] : jL).map (fun q => some q.2) → kX kT L xs (d + 54) 68 101 lv [] τ' (fun r σ' => r = none ∧ ∃ m', m' ≤ m + 1 ∧ gaP σ σ' n m' (trRun υ kl ds)) := by
        intro τ' u' l' x1 x2 x3 x4 x5 lv hk hlv
        refine kX_lv _ hk rfl hlv ?_
        iterate 2 (refine kX_one rfl ?_)
        have := ih (i + 1, τ', u', l') ⟨q, x1, x2, x3, x4, fun z hz => by simp only; rw [x5]; exact htn z hz⟩ (by simp only; omega)
        dsimp only at this
        rw [← nI_1] at this
        exact kX_lv _ rfl rfl rfl this
      iterate 3 (refine kX_one rfl ?_)
      refine kX_ialdV rfl rfl (by decide) (i) (by first | rfl | decide) (by omega) (hmv) ?_
      iterate 6 (refine kX_one rfl ?_)
      refine kX_ialdV rfl rfl (by decide) (s) (by first | rfl | decide) (hs4) ((i6 s hs4).trans (congrArg nI hc0)) ?_
      refine kX_cal (mf_eventOf L xs (d + 52) τ n R S s r ev (nI c0) hcRo2 hS4 r1 (by rw [gI_cell i2 (c := 15) (by decide) (by decide) (by decide)]; rw [← hlo 15 (by decide)]; exact (aS' s hsS).1.trans r2) (by rw [gI_cell i2 (c := 23 + 35 * r) (by omega) (by omega) (by omega)]; rw [← hlo (23 + 35 * r) (by omega)]; exact hR1.2.1.trans ev2) hsS ev1) rfl (Or.inr rfl) rfl rfl rfl (fun r1' σ1 q1 => ?_)
      obtain ⟨hq, rfl⟩ := q1
      rcases hq with ⟨-, hno⟩ | ⟨k, k1, k2, rfl, -⟩
      · exact absurd rfl (hno c0 (by omega))
      obtain rfl : k = c0 := (nI_inj k2 (by omega) (by omega)).symm
      have hk6 : k < 6 := by omega
      have hgc : ∀ j, τ (28 + 35 * r + 5 * k) j = σ (28 + 35 * r + 5 * k) j := fun j => by rw [gI_cell i2 (c := 28 + 35 * r + 5 * k) (by omega) (by omega) (by omega)]
      iterate 5 (refine kX_one rfl ?_)
      refine kX_ialdV rfl rfl (by decide) (s) (by first | rfl | decide) (hs4) ((i6 s hs4).trans (congrArg nI hc0)) ?_
      iterate 2 (refine kX_one rfl ?_)
      refine kX_top (nI_1 k) ?_
      refine kX_iastN rfl rfl (by decide) (s) (by first | rfl | decide) (hs4) ?_
      have hgI2 := gI_turn (upd (τ 184) s (nI (k + 1))) i2
      have hTr2 : kTr (va_up τ 184 (upd (τ 184) s (nI (k + 1)))) l = trSn υ ds (trKn υ kl) i := i5
      have hw2 : (va_up τ 184 (upd (τ 184) s (nI (k + 1)))) 186 13 = 0 := i4
      have htu2 : (va_up τ 184 (upd (τ 184) s (nI (k + 1)))) 184 = upd (τ 184) s (nI (k + 1)) := up_eq
      have hgc2 : ∀ j, (va_up τ 184 (upd (τ 184) s (nI (k + 1)))) (28 + 35 * r + 5 * k) j = σ (28 + 35 * r + 5 * k) j := fun j => by
        rw [up_ne (by omega)]
        exact hgc j
      generalize va_up τ 184 (upd (τ 184) s (nI (k + 1))) = ω at hgI2 hTr2 hw2 htu2 hgc2 ⊢
      iterate 3 (refine kX_one rfl ?_)
      refine kX_getN rfl rfl (kT_ev hr4 hk6) rfl ?_
      repeat refine kX_one rfl ?_
      refine kX_if (fun q2 => ?_) (fun q2 => ?_)
      · have q2 : σ (28 + 35 * r + 5 * k) 0 = 0 := (hgc2 _).symm.trans (qeq q2)
        have hz : ¬ υ 249 (6 * r + k) ≠ 0 := fun z => hE.2.1.mpr z (by rw [hlo (28 + 35 * r + 5 * k) (by omega)]; exact q2)
        exact k101 ω u l hgI2 (by omega) hw2 (by rw [htr, cit_F hz]; exact hTr2) htu2 _ rfl rfl
      · have q2 : σ (28 + 35 * r + 5 * k) 0 ≠ 0 := fun z => qeqF q2 ((hgc2 _).trans z)
        have hz : υ 249 (6 * r + k) ≠ 0 := hE.2.1.mp (by rw [hlo (28 + 35 * r + 5 * k) (by omega)]; exact q2)
        iterate 5 (refine kX_one rfl ?_)
        refine kX_getN rfl rfl (kT_ev hr4 hk6) rfl ?_
        refine kX_top (y := nI t) ((hgc2 _).trans (by rw [← hlo (28 + 35 * r + 5 * k) (by omega)]; exact hE.1.trans t2)) ?_
        iterate 7 (refine kX_one rfl ?_)
        refine kX_top (y := nI (7 * s + 1)) (ix7z s) ?_
        iterate 1 (refine kX_one rfl ?_)
        have hst := r6 k (by omega)
        rw [hft] at hst
        obtain ⟨hks, hkw⟩ := kSt_run (σ := υ) (τ := ω) (A := 182) (base := 7 * s + 1) hTv hAv.1 t1 hst (fun p hp => by
          rw [gI_cell hgI2 (c := 182) (by decide) (by decide) (by decide)]
          exact (uv s hsS).2 p hp) ((gI_cell hgI2 (by decide) (by decide) (by decide)).trans (hlo _ (by decide)).symm) ((gI_cell hgI2 (by decide) (by decide) (by decide)).trans (hlo _ (by decide)).symm) (fun z hz => by rw [hlo 2 (by decide), hlo 3 (by decide), hlo 4 (by decide)]; exact gI_num hgI2 hz)
        have hdz : kDp ω t ≤ 23 ∧ kSz ω t ≤ 24 := by
          have := aT_dp hT hA.1 t1
          have e1 : kDp ω t = kDp σ t := tA_congr (fun z hz => ⟨(mTb_num hT z hz).1, (aT_W (st := 200) hT hA.1).1 z (Or.inl hz) |>.2 |> tOk_mono (fun x _ q => by unfold kV at q; omega) (fun _ _ q => q) rfl rfl rfl⟩) (fun z hz => by obtain ⟨a, b, c⟩ := gI_num hgI2 hz; exact ⟨a, b, c, rfl⟩) t t1
          have e2 : kSz ω t = kSz σ t := by
            unfold kSz tsz
            exact tA_congr (fun z hz => ⟨(mTb_num hT z hz).1, (aT_W (st := 200) hT hA.1).1 z (Or.inl hz) |>.2 |> tOk_mono (fun x _ q => by unfold kV at q; omega) (fun _ _ q => q) rfl rfl rfl⟩) (fun z hz => by obtain ⟨a, b, c⟩ := gI_num hgI2 hz; exact ⟨a, b, c, rfl⟩) t t1
          rw [e1, e2]
          exact this
        refine kX_cal (mf_groundOf L xs 186 200 n 182 28 (7 * s + 1) (m1 + 1) l _ (fun _ => 0) rfl (by decide) (by decide) (by omega) 49 d 0 u ω t rfl (by omega) hgI2.2.1 hgI2.2.2.1 hgI2.2.2.2 t1 hks (by omega)) rfl (Or.inr rfl) rfl rfl rfl (fun r1 σ2 q1 => ?_)
        obtain ⟨u1, g1, rfl, a2, a3, a4, a5, a6, a7, a8, a9, a10⟩ := q1
        have hgI3 : gI σ σ2 n u1 (m1 + 1) l := ⟨by rw [iX_oth (c := 184) a9 hK (by decide) (by decide)]; exact nF2_trans hgI2.1 a9.2.1, a7, a8, iX_gR hgI2.2.1 a9 hgI2.2.2.2⟩
        iterate 2 (refine kX_one rfl ?_)
        refine kX_cal (mf_add L xs (d + 51) σ2 186 200 n u1 (m1 + 1) g1 l (Int32.ofInt 1) (Int32.ofInt (-1)) a7 a2 a3 (a9.2.2.2.trans hw2)) rfl (Or.inr rfl) rfl rfl rfl (fun r1 σ3 q1 => ?_)
        obtain ⟨rfl, b2, b3, b4⟩ := q1
        have etu : σ3 184 = ω 184 := (b4.1 184 (by decide)).trans (iX_oth a9 hK (by decide) (by decide))
        have hgI4 : gI σ σ3 n u1 (m1 + 1) (rwA l g1 (Int32.ofInt 1) (Int32.ofInt (-1))) := ⟨by rw [etu]; exact nF2_trans hgI2.1 (nF2_trans a9.2.1 (nF2_P hK b4)), b2, cCn_P hK b4 a8, gR_P hK b4 hgI3.2.2.2⟩
        iterate 1 (refine kX_one rfl ?_)
        refine k101 σ3 u1 _ hgI4 (by omega) b3 ?_ (etu.trans htu2) _ rfl rfl
        rw [htr, cit_T hz, kTr_c (nP_c hK b4), kTr_add a7 a2, a4, hkw, iX_kTr hgI2.2.1 a9, hTr2]
        rfl
  iterate 2 (refine kX_one rfl ?_)
  exact kX_lv _ rfl rfl rfl (loop (0, va_up ρ 184 (fun j => if j < 4 then 0 else ρ 184 j), 0, l0) ⟨Nat.zero_le _, gI_turn _ hgI0, Nat.zero_le _, hw0, (show kTr ρ l0 = trKn υ kl from hTr0.trans (vw_trKn hv)), fun s hs => by simp only; rw [up_eq, if_pos hs]; rfl⟩)
