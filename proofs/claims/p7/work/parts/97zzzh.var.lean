/-! alike: variable -/
theorem aP_g {σ ω : kS} {n b t a : Nat} {bl : List Nat} (h : mTb σ n b) (hF : ∀ u, u < n → ω 233 u = σ 233 u ∧ ω 234 u = σ 234 u ∧ ω 235 u = σ 235 u) (ht : t < n) (e0 : ω a = σ a) (e3 : ω (a + 3) = σ (a + 3)) (e4 : ω (a + 4) = σ (a + 4)) (hp : aP σ a t bl) : aP ω a t bl := by
  obtain ⟨pl, p0, p1, p2, p3, p4, p5, p6⟩ := hp
  have hlt : ∀ i (hi : i < pl.length), (pl[i]'hi) < n := fun i hi => by
    have := (p4 _ (List.getElem_mem hi)).1
    omega
  refine ⟨pl, p0, by rw [e0]; exact p1, by rw [e3]; exact p2, p3, fun u hu => ⟨(p4 u hu).1, by rw [(fT_all h hF (show u < n by have := (p4 u hu).1; omega)).2.2, (fT_all h hF ht).2.2]; exact (p4 u hu).2⟩, fun i hi ho => ?_, fun j hj => ?_⟩
  · have hk := hF _ (hlt i hi)
    unfold opn at ho
    rw [(fT_all h hF (hlt i hi)).2.1, hk.1] at ho
    rw [hk.2.1, hk.2.2]
    exact p5 i hi ho
  · obtain ⟨f, f1, f2, f3⟩ := p6 j hj
    refine ⟨f, f1, by rw [e4]; exact f2, fun i hi hif => ?_⟩
    rw [(fT_all h hF (hlt i hi)).2.2]
    exact f3 i hi hif
theorem aE_g {σ ω : kS} {n b R r e : Nat} (h : mTb σ n b) (hR : mRo σ n R) (hr : r < R) (he : e < fN (σ 247 r)) (hF : ∀ u, u < n → ω 233 u = σ 233 u ∧ ω 234 u = σ 234 u ∧ ω 235 u = σ 235 u ∧ ω 240 u = σ 240 u ∧ ω 241 u = σ 241 u) (e1 : ω 248 (6 * r + e) = σ 248 (6 * r + e)) (e2 : ω 249 (6 * r + e) = σ 249 (6 * r + e)) (eb : bls ω r e = bls σ r e) (hc : ∀ i, i < 5 → ω (28 + 35 * r + 5 * e + i) = σ (28 + 35 * r + 5 * e + i)) (hE : aE σ r e) : aE ω r e := by
  have hn := h.1
  obtain ⟨t, t1, t2, -⟩ := hR.2.2.2.2.2 r e hr he
  obtain ⟨h1, h2, h3, h4⟩ := hE
  have c0 := hc 0 (by omega)
  have c1 := hc 1 (by omega)
  have c2 := hc 2 (by omega)
  have c3 := hc 3 (by omega)
  have c4 := hc 4 (by omega)
  rw [Nat.add_zero] at c0
  rw [show 28 + 35 * r + 5 * e + 1 = 29 + 35 * r + 5 * e by omega] at c1
  rw [show 28 + 35 * r + 5 * e + 2 = 30 + 35 * r + 5 * e by omega] at c2
  unfold aE
  rw [e1, e2, eb, c0, c1, c2]
  refine ⟨h1, h2, h3, fun q => ?_⟩
  obtain ⟨g1, g2, g3, g4⟩ := h4 q
  refine ⟨g1, g2, fun j hj => ?_, ?_⟩
  · have := hF _ (bls_lt h hR hr he (List.getElem_mem hj)).1
    rw [this.2.2.2.2, this.2.2.2.1]
    exact g3 j hj
  · rw [t2, fN_nI (by omega)] at g4 ⊢
    exact aP_g h (fun u hu => ⟨(hF u hu).1, (hF u hu).2.1, (hF u hu).2.2.1⟩) t1 c0 c3 c4 g4
/-- no RUN has a row any more: TERMS have come -/
theorem aU_gr {σ ω : kS} {n n' R S C : Nat} {kl : List Nat} (hJ : cJ σ n R S C) (hn : n < n') (hn2 : n' ≤ 200) (e1 : ω 181 = σ 181) (e2 : ω 183 = σ 183) (e3 : ω 182 = σ 182) (e4 : ω 17 = σ 17) (f1 : ω 232 52 = σ 232 52) (f2 : ω 232 55 = σ 232 55) (f3 : ω 274 = σ 274) (f4 : ω 264 = σ 264) (f5 : ω 265 = σ 265) (h : aU σ n S kl) : aU ω n' S kl := by
  unfold aU at h ⊢
  rw [e1, e2, e3, e4, f1, f2, f3, f4, f5]
  refine ⟨h.1, fun q => ?_⟩
  obtain ⟨g1, g2, g3, g5, -⟩ := h.2 q
  refine ⟨g1, g2, g3, g5, fun hg => ?_⟩
  rcases hJ.2.2.2.2.2.2.2.2.1 with z | ⟨-, -, -, z⟩
  · exact absurd z (h.1.mpr q)
  · rcases z with z | ⟨g, z1, z2, -⟩
    · rw [z] at hg
      exact absurd hg.symm (nI_m1 (by omega))
    · rw [z2] at hg
      have := nI_inj hg (by omega) (by omega)
      omega
/-- one VARIABLE more on both sides -/
theorem bJ_va {σ σ1 τ ω : kS} {n b R S C m r v as so : Nat} {kl : List Nat} (h : aJ σ n b R S C kl m) (hn : n < 200) (hr : r < R) (hcl : σ 250 r = 0) (hv : σ 244 r = nI v) (hv6 : v < 6) (hτ : τ = teS (cVa σ n v (nI r) (nI so)) r v (nI as) (nI so)) (hJ : cJ τ (n + 1) R S C) (hN : mNw τ σ1 n 3 (-1) (-1)) (hω : ω = vaS σ1 n r v (nI so) (nI as)) (hI : mI ω (n + 1) 200 R S C kl) : bJ m ω := by
  obtain ⟨i, j, tt, ar, s, c, k, u, f, mm⟩ := h
  have hR4 := i.2.1.1
  have hfv : fN (σ 244 r) = v := by rw [hv, fN_nI (by omega)]
  have hGn := mGr_new hN
  obtain ⟨z, g, nx, hd, jd, hσ1, hT1⟩ := hN
  have lo : ∀ c, c < 232 → ω c = τ c := fun c hc => by
    rw [hω]
    unfold vaS
    rw [up_ne (by omega), up_ne (by omega), up_ne (by omega), up_ne (by omega), up_ne (by omega), up_ne (by omega)]
    exact mLow_gr hGn c hc
  have te : ∀ c, c < 23 + 35 * r ∨ 27 + 35 * r ≤ c → τ c = cVa σ n v (nI r) (nI so) c := fun c hc => by
    rw [hτ]
    unfold teS
    rw [up_ne (by omega), up_ne (by omega), up_ne (by omega), up_ne (by omega)]
  have va : ∀ c, 13 ≤ c → cVa σ n v (nI r) (nI so) c = σ c := fun c hc => (cT_va (σ := σ) (r0 := nI r) (so := nI so) j.1 hn hv6).2.1 c (fun q => by have := tC_lt q; omega)
  have el : ∀ c, 13 ≤ c → c < 232 → c < 23 + 35 * r ∨ 27 + 35 * r ≤ c → ω c = σ c := fun c c0 c1 c2 => (lo c c1).trans ((te c c2).trans (va c c0))
  have eT : ∀ c, c < 13 → ω c = cVa σ n v (nI r) (nI so) c := fun c hc => (lo c (by omega)).trans (te c (by omega))
  have hi : ∀ c, 232 ≤ c → τ c = σ c := fun c hc => (te c (by omega)).trans (va c (by omega))
  have er : ∀ c, 232 < c → c ∉ rowC → c ≠ 239 → c ≠ 240 → c ≠ 241 → c ≠ 245 → c ≠ 246 → c ≠ 244 → ω c = σ c := fun c c0 c1 c2 c3 c4 c5 c6 c7 => by
    rw [hω]
    unfold vaS
    rw [up_ne c7, up_ne c6, up_ne c5, up_ne c4, up_ne c3, up_ne c2, hGn.1 c c1, hi c (by omega)]
  have hr' : ∀ l : List Nat, l.all (fun c => decide (232 < c ∧ c ∉ rowC ∧ c ≠ 239 ∧ c ≠ 240 ∧ c ≠ 241 ∧ c ≠ 245 ∧ c ≠ 246 ∧ c ≠ 244)) = true → eqC σ ω l := eqC_of (fun c q => er c q.1 q.2.1 q.2.2.1 q.2.2.2.1 q.2.2.2.2.1 q.2.2.2.2.2.1 q.2.2.2.2.2.2.1 q.2.2.2.2.2.2.2)
  have one : ∀ c, [c].all (fun c => decide (232 < c ∧ c ∉ rowC ∧ c ≠ 239 ∧ c ≠ 240 ∧ c ≠ 241 ∧ c ≠ 245 ∧ c ≠ 246 ∧ c ≠ 244)) = true → ω c = σ c := fun c hc => hr' [c] hc c (List.mem_singleton.mpr rfl)
  have eo : ∀ j, j ∉ rowT → ω 232 j = σ 232 j := fun j hj => by
    have e1 : ω 232 = σ1 232 := by
      rw [hω]
      rfl
    rw [e1, hGn.2.1 j hj, hi 232 (by decide)]
  have s1 : ∀ c, c ∉ rowC → σ1 c = σ c ∨ c < 232 := fun c hc => by
    by_cases q : c < 232
    · exact Or.inr q
    · exact Or.inl ((hGn.1 c hc).trans (hi c (by omega)))
  have e_or : ω 239 = upd (σ 239) n (nI r) := by
    rw [hω]; show upd (σ1 239) n (nI r) = _; rw [hGn.1 _ (by decide), hi _ (by decide)]
  have e_so : ω 240 = upd (σ 240) n (nI so) := by
    rw [hω]; show upd (σ1 240) n (nI so) = _; rw [hGn.1 _ (by decide), hi _ (by decide)]
  have e_on : ω 241 = upd (σ 241) n (nI v) := by
    rw [hω]; show upd (σ1 241) n (nI v) = _; rw [hGn.1 _ (by decide), hi _ (by decide)]
  have e_va : ω 245 = upd (σ 245) (6 * r + v) (nI n) := by
    rw [hω]; show upd (σ1 245) (6 * r + v) (nI n) = _; rw [hGn.1 _ (by decide), hi _ (by decide)]
  have e_ta : ω 246 = upd (σ 246) (6 * r + v) (nI as) := by
    rw [hω]; show upd (σ1 246) (6 * r + v) (nI as) = _; rw [hGn.1 _ (by decide), hi _ (by decide)]
  have e_vs : ω 244 = upd (σ 244) r (nI (v + 1)) := by
    rw [hω]; show upd (σ1 244) r (nI (v + 1)) = _; rw [hGn.1 _ (by decide), hi _ (by decide)]
  have hk : ∀ u, u < n → ω 233 u = σ 233 u ∧ ω 234 u = σ 234 u ∧ ω 235 u = σ 235 u := fun u hu => by
    have := hGn.2.2 u hu
    rw [hi 233 (by decide), hi 234 (by decide), hi 235 (by decide)] at this
    rw [hω]
    exact this
  have hk2 : ∀ u, u < n → ω 233 u = σ 233 u ∧ ω 234 u = σ 234 u ∧ ω 235 u = σ 235 u ∧ ω 240 u = σ 240 u ∧ ω 241 u = σ 241 u := fun u hu => ⟨(hk u hu).1, (hk u hu).2.1, (hk u hu).2.2, by rw [e_so, pk_un (by omega)], by rw [e_on, pk_un (by omega)]⟩
  have hkn : ω 233 n = nI 3 := by
    rw [hω, hσ1]
    exact pk_us
  have hO : ∀ r', r' < R → r' ≠ r → roO σ ω r' := fun r' h1 h2 => by
    unfold roO
    rw [e_vs, e_va, e_ta, one 247 (by decide), one 250 (by decide), one 248 (by decide), one 249 (by decide), pk_un h2]
    exact ⟨rfl, rfl, rfl, fun k hk => ⟨pk_un (by omega), pk_un (by omega), rfl, rfl⟩⟩
  have hF : ∀ r', r' < R → r' ≠ r → fR σ ω r' n := fun r' h1 h2 => ⟨hO r' h1 h2, hk2, fun c c1 c2 => el c (by omega) (by omega) (by omega)⟩
  have hsr : ∀ s, s < S → fN (σ 255 s) < R ∧ fN (σ 255 s) ≠ r := fun s hs => by
    obtain ⟨r', r1, r2, r3, -⟩ := i.2.2.1.2.2 s hs
    rw [r2, fN_nI (by omega)]
    exact ⟨r1, fun e => r3 (by rw [e]; exact hcl)⟩
  have hbd : ∀ dn k, dn ≤ fN (σ 247 r) → k < v → (bdv ω r dn k ↔ bdv σ r dn k) := fun dn k hdn hk' => by
    unfold bdv
    rw [e_vs, pk_us, fN_nI (by omega), hfv, e_ta, e_va, one 248 (by decide), one 249 (by decide), pk_un (by omega), pk_un (by omega)]
    refine and_congr ⟨fun _ => hk', fun _ => by omega⟩ (or_congr_right (exists_congr (fun e => and_congr_right (fun he => and_congr_right (fun _ => ?_)))))
    obtain ⟨t, t1, t2, -⟩ := i.2.1.2.2.2.2.2 r e hr (by omega)
    rw [t2, fN_nI (by omega), (fT_all i.1 hk t1).2.2]
  have hbl : ∀ e, e < fN (σ 247 r) → bls ω r e = bls σ r e := fun e he => by
    obtain ⟨t, t1, t2, t3, -⟩ := i.2.1.2.2.2.2.2 r e hr he
    unfold bls
    rw [one 248 (by decide), t2, fN_nI (by omega), (fT_all i.1 hk t1).2.2]
    refine fl_congr (fun w hw => ?_)
    have hw2 : w ∈ tvs (σ 233) (σ 234) (σ 235) t := by
      rcases (ddl_mem _ _).mp hw with q | q
      · cases q
      · exact q
    have hwn := tvs_mem (mTb_num i.1) t t1 w hw2
    obtain ⟨r2, k2, a1, a2, a3⟩ := i.2.1.2.2.2.2.1 w hwn.1 hwn.2.1
    obtain ⟨t', so', as', b1, b2, b3, b4, b5, -⟩ := i.2.1.2.2.2.1 r2 k2 a1 a2
    obtain rfl : w = t' := nI_inj (a3.symm.trans b2) (by omega) (by omega)
    obtain rfl : r2 = r := nI_inj (b4.symm.trans (t3 w hw2)) (by omega) (by omega)
    have e5 : fN (σ 241 w) = k2 := by
      rw [b5]
      exact fN_nI (by rw [hfv] at a2; omega)
    rw [(hk2 w hwn.1).2.2.2.2, e5]
    unfold nbv
    rw [hfv] at a2
    rw [hbd _ _ (by omega) a2, hbd _ _ (by omega) a2]
  refine ⟨n + 1, 200, R, S, C, kl, hI, cJ_low lo hJ, ⟨fun t ht => ?_, ?_⟩, fun r' hr2 => ?_, fun s' hs => ?_, aC_c i.2.2.2.2.1 (fun c c1 c2 => el c (by omega) (by omega) (by omega)) (hr' _ (by decide)) c, aK_eq (by rw [el 13 (by decide) (by decide) (by omega)]) (el _ (by decide) (by decide) (by omega)) k, aU_gr j (by omega) (by omega) (el _ (by decide) (by decide) (by omega)) (el _ (by decide) (by decide) (by omega)) (el _ (by decide) (by decide) (by omega)) (el _ (by decide) (by decide) (by omega)) (eo _ (by decide)) (eo _ (by decide)) (one _ (by decide)) (one _ (by decide)) (one _ (by decide)) u, aF_R (n := n) (R := R) (aF_fr (n' := n) i.1 i.2.1 i.2.2.1 (el _ (by decide) (by decide) (by omega)) (el _ (by decide) (by decide) (by omega)) (el _ (by decide) (by decide) (by omega)) (el _ (by decide) (by decide) (by omega)) ⟨eo _ (by decide), eo _ (by decide), eo _ (by decide), eo _ (by decide)⟩ (one _ (by decide)) (one _ (by decide)) (one _ (by decide)) (fun s _ => by rw [one 255 (by decide)]) (fun s hs => hF _ (hsr s hs).1 (hsr s hs).2) f), aM_eq (Nat.le_refl _) (fun c c1 c2 => el c (by omega) (by omega) (by omega)) mm⟩
  · by_cases e : t = n
    · subst e
      have esz := hI.1.2.2.2.2.2.1.2.1 t (Or.inl (by omega))
      have egr := hI.1.2.2.2.2.2.2.1 t (Or.inl (by omega))
      have ek : ω 2 t = nI 3 := by rw [eT _ (by decide)]; exact pk_us
      unfold aT1
      rw [ek, hkn, esz, egr, eT 3 (by decide), eT 4 (by decide), eT 5 (by decide), eT 8 (by decide), eT 10 (by decide), eT 11 (by decide), eT 12 (by decide), e_or, e_so, e_on]
      have f1 : ω 234 t = -1 ∧ ω 235 t = -1 := by
        rw [hω, hσ1]
        exact ⟨pk_us, pk_us⟩
      have f2 : tsz (ω 233) (ω 234) (ω 235) t = 1 := tA_0 hkn (by omega)
      have f3 : tgd (ω 233) (ω 234) (ω 235) t = false := by
        have : tgd (ω 233) (ω 234) (ω 235) t = decide (ω 233 t ≠ nI 3) := tA_0 hkn (by omega)
        rw [this, hkn]
        rfl
      rw [f1.1, f1.2, f2, f3]
      exact ⟨rfl, pk_us, pk_us, pk_us, pk_us, fun q => absurd q (by decide), fun _ => ⟨pk_us.trans pk_us.symm, pk_us.trans pk_us.symm, pk_us.trans pk_us.symm⟩⟩
    · have ht : t < n := by omega
      have hsg := mTb_sg i.1 hI.1 (by omega) hk ht
      have := tt.1 t ht
      unfold aT1 at this ⊢
      have q1 : cVa σ n v (nI r) (nI so) 2 t = σ 2 t := pk_un e
      have q2 : cVa σ n v (nI r) (nI so) 3 t = σ 3 t := pk_un e
      have q3 : cVa σ n v (nI r) (nI so) 4 t = σ 4 t := pk_un e
      have q4 : cVa σ n v (nI r) (nI so) 5 t = σ 5 t := pk_un e
      have q5 : cVa σ n v (nI r) (nI so) 8 t = σ 8 t := (pk_un e).trans (pk_un e)
      have q6 : cVa σ n v (nI r) (nI so) 9 t = σ 9 t := pk_un e
      have q7 : cVa σ n v (nI r) (nI so) 10 t = σ 10 t := pk_un e
      have q8 : cVa σ n v (nI r) (nI so) 11 t = σ 11 t := pk_un e
      have q9 : cVa σ n v (nI r) (nI so) 12 t = σ 12 t := pk_un e
      rw [eT 2 (by decide), eT 3 (by decide), eT 4 (by decide), eT 5 (by decide), eT 8 (by decide), eT 9 (by decide), eT 10 (by decide), eT 11 (by decide), eT 12 (by decide), q1, q2, q3, q4, q5, q6, q7, q8, q9, (hk t ht).1, (hk t ht).2.1, (hk t ht).2.2, hsg.1, hsg.2, one 238 (by decide), e_or, pk_un e, (hk2 t ht).2.2.2.1, (hk2 t ht).2.2.2.2]
      exact this
  · have hC : cCn (cVa σ n v (nI r) (nI so)) (n + 1) := cCn_0 (k := 3) tt.2 (fun t ht => ⟨pk_un (by omega), pk_un (by omega), pk_un (by omega)⟩) pk_us (by omega) rfl rfl
    unfold cCn cpt at hC ⊢
    rw [eT 2 (by decide), eT 3 (by decide), eT 4 (by decide), eT 7 (by decide), eT 6 (by decide)]
    exact hC
  · by_cases e : r' = r
    · subst e
      obtain ⟨g1, g2, g3, g4, g5⟩ := ar r' hr
      have c23 : ω (23 + 35 * r') = upd (σ (23 + 35 * r')) 3 (nI (v + 1)) := by
        rw [lo _ (by omega), hτ]
        unfold teS
        rw [up_eq, va _ (by omega)]
      have c24 : ω (24 + 35 * r') = upd (σ (24 + 35 * r')) v (nI as) := by
        rw [lo _ (by omega), hτ]
        unfold teS
        rw [up_ne (by omega), up_ne (by omega), up_ne (by omega), up_eq, va _ (by omega)]
      have c25 : ω (25 + 35 * r') = upd (σ (25 + 35 * r')) v (nI so) := by
        rw [lo _ (by omega), hτ]
        unfold teS
        rw [up_ne (by omega), up_ne (by omega), up_eq, va _ (by omega)]
      have c26 : ω (26 + 35 * r') = upd (σ (26 + 35 * r')) v 0 := by
        rw [lo _ (by omega), hτ]
        unfold teS
        rw [up_ne (by omega), up_eq, va _ (by omega)]
      unfold aR1
      rw [c23, c24, c25, c26, e_vs, show upd (σ 244) r' (nI (v + 1)) r' = nI (v + 1) from pk_us, fN_nI (by omega), one 247 (by decide), one 250 (by decide), e_ta, e_va, e_so]
      refine ⟨rfl, g2, g3, fun k hk' => ?_, fun e he => ?_⟩
      · by_cases e : k = v
        · subst e
          rw [pk_us, pk_us, pk_us, pk_us, pk_us, fN_nI (by omega), pk_us]
          refine ⟨rfl, rfl, fun q => ⟨fun z => absurd rfl z, fun z => ?_⟩⟩
          exfalso
          obtain ⟨-, z⟩ := z
          rw [e_ta, pk_us, e_va, pk_us, fN_nI (by omega)] at z
          rcases z with z | ⟨e, e1, e2, e3⟩
          · exact z q
          · rw [one 248 (by decide)] at e3
            obtain ⟨t, t1, t2, -⟩ := i.2.1.2.2.2.2.2 r' e hr e1
            rw [t2, fN_nI (by omega), (fT_all i.1 hk t1).2.2] at e3
            have := (tvs_mem (mTb_num i.1) t t1 n e3).1
            omega
        · have hkv : k < v := by omega
          obtain ⟨t, so', as', t1, t2, -⟩ := i.2.1.2.2.2.1 r' k hr (by rw [hfv]; exact hkv)
          obtain ⟨f1, f2, f3⟩ := g4 k (by rw [hfv]; exact hkv)
          rw [pk_un e, pk_un e, pk_un e, show upd (σ 246) (6 * r' + v) (nI as) (6 * r' + k) = σ 246 (6 * r' + k) from pk_un (by omega), show upd (σ 245) (6 * r' + v) (nI n) (6 * r' + k) = σ 245 (6 * r' + k) from pk_un (by omega), t2, fN_nI (by omega), show upd (σ 240) n (nI so) t = σ 240 t from pk_un (by omega), hbd _ _ (Nat.le_refl _) hkv]
          rw [t2, fN_nI (by omega)] at f2
          exact ⟨f1, f2, f3⟩
      · have he6 : fN (σ 247 r') ≤ 6 := by
          obtain ⟨-, ev, ev1, ev2⟩ := i.2.1.2.2.1 r' hr
          rw [ev2, fN_nI (by omega)]
          exact ev1
        exact aE_g i.1 i.2.1 hr he hk2 (by rw [one 248 (by decide)]) (by rw [one 249 (by decide)]) (hbl e he) (fun i hi => el _ (by omega) (by omega) (by omega)) (g5 e he)
    · exact fR_aR1 i.1 i.2.1 (hF r' hr2 e) hr2 (ar r' hr2)
  · exact fS_aS1 i.1.1 i.2.1 i.2.2.1 hs ⟨by rw [one 255 (by decide)], fun k _ => by rw [one 256 (by decide)], hO _ (hsr s' hs).1 (hsr s' hs).2, fun u _ => by rw [one 238 (by decide)], by rw [el _ (by decide) (by decide) (by omega)], by rw [el _ (by decide) (by decide) (by omega)], fun k _ => by rw [el _ (by decide) (by decide) (by omega)]⟩ (s s' hs)
set_option maxRecDepth 100000 in
set_option maxHeartbeats 4000000 in
theorem bo_variable (L : Nat) (xs : Nat → Int32) (d d' m : Nat) (σ : kS) (x y z : Int32) (h : bJ m σ) : kXM kT L xs (d + 5) 115 [.ref 0, .int x, .int y, .int z] σ (fun r τ => ∃ z', r = some (.int z') ∧ kXM kT L xs (d' + 5) 163 [.ref 232, .int x, .int y, .int z] τ (fun r' ω => r' = some (.int z') ∧ bJ m ω)) := by
  have hb := h
  obtain ⟨n, b, R, S, C, kl, hA⟩ := h
  have hI := hA.1
  have h := hA.2.1
  have hT := h.1
  have hn := hT.1
  have hR := h.2.1
  have hR4 := hR.1
  unfold kXM
  iterate 3 (refine kX_one rfl ?_)
  refine kX_cal (mc_hasRole L xs (d + 3) σ R x hR4 hR.2.1) rfl (Or.inr rfl) rfl rfl rfl (fun r1 σ1 q1 => ?_)
  obtain ⟨rfl, rfl⟩ := q1
  repeat refine kX_one rfl ?_
  refine kX_if (fun q => ?_) (fun q => ?_)
  · obtain ⟨r, hr, rfl⟩ := isB_ne.mp (qne q)
    have hr4 : r < 4 := by omega
    obtain ⟨v, ev, v1, e1, v2, e2, so1, ev1⟩ := hR.2.2 r hr
    iterate 2 (refine kX_one rfl ?_)
    refine kX_cal (mf_maySort L xs (d + 3) σ y z) rfl (Or.inr rfl) rfl rfl rfl (fun r1 σ1 q1 => ?_)
    obtain ⟨rfl, rfl⟩ := q1
    have uni : ∀ r', r' < R → nI r = nI r' → r' = r := fun r' q q2 => (nI_inj q2).symm
    obtain ⟨f1, f2, f3, f4, f5⟩ := hA.2.2.2.1 r hr
    repeat refine kX_one rfl ?_
    refine kX_if (fun qm => ?_) (fun qm => ?_)
    rotate_left
    · have hM : ¬ mayS y z := fun e => isB_ne.mpr e (qneF qm)
      repeat refine kX_one rfl ?_
      refine kX_ret (i := .ireturn) (len := 1) rfl (Or.inr rfl) rfl (⟨_, rfl, mg_variable L xs d' σ n b R S C kl _ _ _ _ hI (fun e => absurd ⟨r, hr, rfl⟩ e) (fun _ _ => ⟨rfl, hb⟩) (fun _ _ _ e => absurd e hM) (fun _ _ _ e => absurd e hM) (fun _ _ _ _ _ _ _ e => absurd e hM)⟩)
    · have hM := isB_ne.mp (qne qm)
      have hso : ∃ so, so ≤ 3 ∧ z = nI so ∧ (y = 1 → so ≤ 2) := by
        rcases hM with ⟨e1, e2⟩ | ⟨e1, e2 | e2⟩ | ⟨e1, so, e2, e3⟩
        · exact ⟨0, by omega, e2, fun _ => by omega⟩
        · exact ⟨1, by omega, e2, fun _ => by omega⟩
        · exact ⟨2, by omega, e2, fun _ => by omega⟩
        · exact ⟨so, by omega, e3, fun e => absurd (e1.symm.trans e) (by decide)⟩
      obtain ⟨so, s1, rfl, s2⟩ := hso
      iterate 4 (refine kX_one rfl ?_)
      refine kX_aaldN rfl (rfl) (by decide) (by decide) (by decide) (r) (by first | rfl | decide) (hr4) (ro_at hr4) ?_
      iterate 2 (refine kX_one rfl ?_)
      refine kX_getN rfl rfl (kT_ro hr4) rfl ?_
      repeat refine kX_one rfl ?_
      refine kX_if (fun q2 => ?_) (fun q2 => ?_)
      · have hcl : σ 250 r = 0 := Classical.byContradiction (fun e => f3.mpr e (qeq q2))
        have hvr : σ 244 r = nI v := f1.symm.trans v2
        iterate 1 (refine kX_one rfl ?_)
        refine kX_getN rfl rfl (kT_ro hr4) rfl ?_
        refine kX_top (v2) ?_
        iterate 1 (refine kX_one rfl ?_)
        repeat refine kX_one rfl ?_
        refine kX_if (fun q3 => ?_) (fun q3 => ?_)
        · have q3 := qge q3 v 6
          repeat refine kX_one rfl ?_
          refine kX_ret (i := .ireturn) (len := 1) rfl (Or.inr rfl) rfl (⟨_, rfl, mg_variable L xs d' σ n b R S C kl _ _ _ _ hI (fun e => absurd ⟨r, hr, rfl⟩ e) (fun _ e => absurd hM e) (fun r' c1 c2 _ c3 => absurd hcl (by rw [← uni r' c1 c2]; exact c3)) (fun _ _ _ _ _ _ => ⟨rfl, hb⟩) (fun r' v' as' so' σ1 c1 c2 _ c3 c4 c5 => by rw [uni r' c1 c2, hvr] at c4; have := nI_inj c4; omega)⟩)
        · have q3 := qgeF q3 v 6
          iterate 2 (refine kX_one rfl ?_)
          refine kX_cal (mc_isFull L xs (d + 3) σ n hn hT.2.1) rfl (Or.inr rfl) rfl rfl rfl (fun r1 σ1 q1 => ?_)
          obtain ⟨rfl, rfl⟩ := q1
          repeat refine kX_one rfl ?_
          refine kX_if (fun q4 => ?_) (fun q4 => ?_)
          · have q4 : ¬ n = 200 := fun z => isB_ne.mpr z (qeq q4)
            iterate 4 (refine kX_one rfl ?_)
            refine kX_getN rfl rfl (kT_ro hr4) rfl ?_
            refine kX_top (v2) ?_
            iterate 1 (refine kX_one rfl ?_)
            have hlt : n < 200 := by omega
            refine kX_cal (mf_newVariable L xs d σ n v (nI r) (nI so) hT hlt) rfl (Or.inr rfl) rfl rfl rfl (fun r1 σ1 q1 => ?_)
            obtain ⟨rfl, hs1⟩ := q1
            obtain ⟨g1, g2⟩ := cT_va (r0 := nI r) (so := nI so) hT hlt q3
            rw [← hs1] at g1 g2
            · have h2 := cJ_gr h g2 (by omega) g1
              have ec : ∀ c, 13 ≤ c → σ1 c = σ c := fun c hc => g2.1 c (fun q => by have := tC_lt q; omega)
              have hvc : σ1 (23 + 35 * r) 3 = nI v := by
                rw [ec _ (by omega)]
                exact v2
              iterate 4 (refine kX_one rfl ?_)
              refine kX_cal (mc_tell L xs (d + 3) σ1 r v y (nI so) hr4 q3 hvc) rfl (Or.inr rfl) rfl (jcall_v rfl rfl rfl (kT_ro hr4) rfl rfl) rfl (fun r1 σ1 q1 => ?_)
              obtain ⟨rfl, rfl⟩ := q1
              have hoth : ∀ c, c < 23 + 35 * r ∨ 58 + 35 * r ≤ c → teS σ1 r v y (nI so) c = σ1 c := fun c hc => by
                unfold teS
                rw [up_ne (by omega), up_ne (by omega), up_ne (by omega), up_ne (by omega)]
              repeat refine kX_one rfl ?_
              have hJ2 : cJ (teS σ1 r v y (nI so)) (n + 1) R S C := by
                refine cJ_ro h2 hr hoth ?_
                refine ⟨v + 1, ev, by omega, e1, ?_, ?_, fun k hk => ?_, fun k hk => ?_⟩
                · unfold teS
                  rw [up_eq]
                  rfl
                · unfold teS
                  rw [up_eq]
                  show σ1 (23 + 35 * r) 5 = _
                  rw [ec _ (by omega)]
                  exact e2
                · have e25 : teS σ1 r v y (nI so) (25 + 35 * r) = upd (σ1 (25 + 35 * r)) v (nI so) := by
                    unfold teS
                    rw [up_ne (by omega), up_ne (by omega), up_eq]
                  have e24 : teS σ1 r v y (nI so) (24 + 35 * r) = upd (σ1 (24 + 35 * r)) v y := by
                    unfold teS
                    rw [up_ne (by omega), up_ne (by omega), up_ne (by omega), up_eq]
                  rw [e25, e24]
                  by_cases e : k = v
                  · subst e
                    rw [pk_us, pk_us]
                    exact ⟨so, s1, rfl, s2⟩
                  · rw [pk_un e, pk_un e, ec _ (by omega), ec _ (by omega)]
                    exact so1 k (by omega)
                · refine cE_up (σ := σ) (n := n) (by omega) (fun i hi => ?_) (ev1 k hk)
                  have : teS σ1 r v y (nI so) (28 + 35 * r + 5 * k + i) = σ1 (28 + 35 * r + 5 * k + i) := by
                    unfold teS
                    rw [up_ne (by omega), up_ne (by omega), up_ne (by omega), up_ne (by omega)]
                  rw [this, ec _ (by omega)]
              have hi : ∀ c, 232 ≤ c → teS σ1 r v y (nI so) c = σ c := fun c hc => (hoth c (by omega)).trans (ec c (by omega))
              have eV : teS σ1 r v y (nI so) 244 = σ 244 := hi _ (by decide)
              have eC : teS σ1 r v y (nI so) 250 = σ 250 := hi _ (by decide)
              refine kX_ret (i := .ireturn) (len := 1) rfl (Or.inr rfl) rfl ⟨_, rfl, mg_variable L xs d' _ n b R S C kl _ _ _ _ (aJ_hi hA hi) (fun e => absurd ⟨r, hr, rfl⟩ e) (fun _ e => absurd hM e) (fun r' c1 c2 _ c3 => ?_) (fun r' c1 c2 _ _ c3 => ?_) (fun r' v' as' so' σ2 c1 c2 _ c3 c4 c5 c6 c7 c8 c9 c10 c11 c12 => ?_)⟩
              · rw [eC, uni r' c1 c2] at c3
                exact absurd hcl c3
              · rw [eV, uni r' c1 c2, hvr] at c3
                rcases c3 with c3 | c3
                · have := nI_inj c3
                  omega
                · omega
              · obtain rfl := uni r' c1 c2
                rw [eV, hvr] at c4
                obtain rfl : v = v' := nI_inj c4
                obtain rfl : so = so' := nI_inj c8
                refine ⟨rfl, bJ_va hA hlt hr hcl hvr q3 (τ := teS σ1 r' v y (nI so)) ?_ hJ2 c11 rfl c12⟩
                rw [hs1, c7]
          · have q4 : n = 200 := isB_ne.mp (qeqF q4)
            repeat refine kX_one rfl ?_
            refine kX_ret (i := .ireturn) (len := 1) rfl (Or.inr rfl) rfl (⟨_, rfl, mg_variable L xs d' σ n b R S C kl _ _ _ _ hI (fun e => absurd ⟨r, hr, rfl⟩ e) (fun _ e => absurd hM e) (fun r' c1 c2 _ c3 => absurd hcl (by rw [← uni r' c1 c2]; exact c3)) (fun _ _ _ _ _ _ => ⟨rfl, hb⟩) (fun r' v' as' so' σ1 c1 c2 _ c3 c4 c5 c6 => by omega)⟩)
      · have hcl : σ 250 r ≠ 0 := f3.mp (qeqF q2)
        repeat refine kX_one rfl ?_
        refine kX_ret (i := .ireturn) (len := 1) rfl (Or.inr rfl) rfl (⟨_, rfl, mg_variable L xs d' σ n b R S C kl _ _ _ _ hI (fun e => absurd ⟨r, hr, rfl⟩ e) (fun _ e => absurd hM e) (fun _ _ _ _ _ => ⟨rfl, hb⟩) (fun r' c1 c2 _ c3 => absurd c3 (by rw [uni r' c1 c2]; exact hcl)) (fun r' v' as' so' σ1 c1 c2 _ c3 => absurd c3 (by rw [uni r' c1 c2]; exact hcl))⟩)
  · have q : ¬ isN x R := fun e => isB_ne.mpr e (qneF q)
    repeat refine kX_one rfl ?_
    refine kX_ret (i := .ireturn) (len := 1) rfl (Or.inr rfl) rfl (⟨_, rfl, mg_variable L xs d' σ n b R S C kl _ _ _ _ hI (fun _ => ⟨rfl, hb⟩) (fun e => absurd e q) (fun r' c1 c2 => absurd ⟨r', c1, c2⟩ q) (fun r' c1 c2 => absurd ⟨r', c1, c2⟩ q) (fun r' v' as' so' σ1 c1 c2 => absurd ⟨r', c1, c2⟩ q)⟩)
