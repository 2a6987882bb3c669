/-! alike: search -/
theorem trRun_cg {σ τ : kS} {n b R S : Nat} {kl ds : List Nat} (h : mTb σ n b) (hR : mRo σ n R) (hK : mKn σ n kl) (hS : mRn σ n R S ds) (hk : ∀ u, u < 200 → τ 233 u = σ 233 u ∧ τ 234 u = σ 234 u ∧ τ 235 u = σ 235 u) (e : eqC σ τ sxC) (hv : ∀ s k, s < S → k < 6 → τ 265 (6 * s + k) = σ 265 (6 * s + k)) : trRun τ kl ds = trRun σ kl ds := by
  have hn := h.1
  have hR4 := hR.1
  have key : ∀ tr k, k ≤ ds.length → trSn τ ds tr k = trSn σ ds tr k := by
    intro tr k
    induction k with
    | zero => intro _; rfl
    | succ k ih =>
      intro hk'
      have hkl : k < ds.length := hk'
      have hgd : ds.getD k 0 = ds[k] := by rw [List.getD_eq_getElem?_getD, List.getElem?_eq_getElem hkl]; rfl
      have hsS := hS.2.2.1 _ (List.getElem_mem hkl)
      obtain ⟨r, r1, r2, r3, r4, r5, r6, -⟩ := hS.2.2.2 _ hsS
      have hcnt : (ds.take k).count ds[k] < ds.count ds[k] := by
        have := count_take_le ds ds[k] (k + 1)
        rw [List.take_succ_eq_append_getElem hkl, List.count_append] at this
        simp at this
        omega
      have hmev : mEv τ ds[k] ((ds.take k).count ds[k]) = mEv σ ds[k] ((ds.take k).count ds[k]) := by
        unfold mEv
        rw [e 255 (by decide)]
      have hmev2 : mEv σ ds[k] ((ds.take k).count ds[k]) = 6 * r + (ds.take k).count ds[k] := by
        unfold mEv
        rw [r2, fN_nI (by omega)]
      obtain ⟨t, t1, t2, -⟩ := hR.2.2.2.2.2 r ((ds.take k).count ds[k]) r1 (by omega)
      have hst := r6 _ hcnt
      rw [trSn, trSn, hgd, ih (by omega), hmev, e 249 (by decide), e 248 (by decide), hmev2]
      rw [t2, fN_nI (by omega)] at hst ⊢
      rw [tin_cg h (fun u hu => hk u (by omega)) (e 241 (by decide)) t t1 (fun u hu => ?_)]
      obtain ⟨p, z, p1, p2, p3, p4, -⟩ := hst u hu
      exact ⟨p, z, p1, p2, p3, p4, by rw [hv _ p hsS p1]; exact p4⟩
  unfold trRun
  rw [trKn_cg h hK hk, key _ _ (Nat.le_refl _), mA_cg hk, e 238 (by decide)]
/-- the class's invariant behind its search -/
theorem cJ_cX {σ τ : kS} {n b R S C m mm : Nat} {kl : List Nat} {X : sX} (h : aJ σ n b R S C kl m) (hX : cX σ τ n R S C X mm) : cJ τ n R S C := by
  have hJ := h.2.1
  have hn := h.1.1.1
  obtain ⟨-, tb2, -, tb4⟩ := tb_at h hX.1
  obtain ⟨h1, h2, h3, h4, h5, h6, h7, h8, h9, h10, h11⟩ := hJ
  obtain ⟨⟨i1, iz, i2, i3, i5⟩, g2, g3, g4, g5, g6, g7, g9, g10⟩ := id hX
  have e : ∀ c, 13 ≤ c → c < 195 → τ c = σ c := sF_13 i1
  have hg : ∀ z, z < n → τ 8 z = σ 8 z := fun z _ => by rw [sF_g i1]
  refine ⟨cT_sF i1 h1, cRo_gr (Nat.le_refl _) (fun c c1 c2 => e c c1 (by omega)) h2, cSe_eq hg (by rw [e 13 (by decide) (by decide)]) (e _ (by decide) (by decide)) (e _ (by decide) (by decide)) h3, cCl_eq (by rw [e 13 (by decide) (by decide)]) (fun c c1 c2 => e c (by omega) (by omega)) h4, cKn_eq (by rw [e 13 (by decide) (by decide)]) h5, cKw_eq2 (e _ (by decide) (by decide)) (e _ (by decide) (by decide)) (e _ (by decide) (by decide)) (fun g _ g2 => i1.2 g (by omega)) h6, i2, i3, ?_, ⟨X.1.length, g2.1, g2.2.1, fun i hi s k hs hk => ?_, fun i i0 hi => ?_, ?_⟩, i5⟩
  · unfold cRu
    rw [e 181 (by decide) (by decide), e 183 (by decide) (by decide), e 182 (by decide) (by decide), e 186 (by decide) (by decide)]
    rcases h9 with q | ⟨q1, q2, q3, q4⟩
    · exact Or.inl q
    · refine Or.inr ⟨q1, q2, cV_eq hg q3, ?_⟩
      rcases q4 with q4 | ⟨g, g1, g2, g3⟩
      · exact Or.inl q4
      · refine Or.inr ⟨g, g1, g2, fun hgn => ?_⟩
        obtain ⟨u, u1, u2, u3⟩ := g3 hgn
        exact ⟨u, u1, u2, cKg_eq hg (fun g _ b => ⟨(i1.2 g (by omega)).2.1, (i1.2 g (by omega)).2.2.1⟩) u3⟩
  · have hok := (g9.2 i hi).1
    have ee : τ 197 (28 * i + 7 * s + 1 + k) = (xq X.1 i).1 (7 * s + 1 + k) := by
      rw [← (g3 i hi).1]
      unfold stF
      rw [if_pos (by omega), show 28 * i + (7 * s + 1 + k) = 28 * i + 7 * s + 1 + k by omega]
    rw [ee]
    rcases hok.2.2 s k hs hk with q | ⟨z, z1, z2⟩
    · exact Or.inl q
    · refine Or.inr ⟨z, z1, z2, ?_⟩
      rw [tb4 z z1]
      refine isB_T ?_
      unfold kGd
      rw [kGd_at h hX.1 z1]
      exact aOk_gd h.1.1 hok hs hk z1 z2
  · obtain ⟨j, mv, j1, j2, j3, j4⟩ := (g9.2 i hi).2.2 i0
    exact ⟨⟨j, j1, (g3 i hi).2.1.trans j2⟩, mv, j4.1, (g3 i hi).2.2.trans j3⟩
  · by_cases q : X.2.2.2 = 0 ∨ X.2.2.2 = -7
    · exact Or.inl (g10.1 q)
    · obtain ⟨hN, D, d1, d2, d3, d4, d5⟩ := g10.2 (fun z => q (Or.inl z)) (fun z => q (Or.inr z))
      refine Or.inr ⟨hN, D, d1, d4, fun k hk => ?_⟩
      rw [d5 k hk]
      have hp := d2 (D - 1 - k) (by omega)
      have hlt : ∀ j, j ≤ D → tpI (τ 198) (X.1.length - 1) j < X.1.length := by
        intro j
        have hN6 := g2.1
        induction j with
        | zero => intro _; show X.1.length - 1 < X.1.length; omega
        | succ j ih =>
          intro hj
          have ih := ih (by omega)
          obtain ⟨j', mv, j1, j2, -⟩ := (g9.2 _ ih).2.2 (d2 j (by omega))
          show fN (τ 198 (tpI (τ 198) (X.1.length - 1) j)) < X.1.length
          rw [(g3 _ ih).2.1, j2, fN_nI (by omega)]
          omega
      have hlt := hlt (D - 1 - k) (by omega)
      obtain ⟨j, mv, j1, j2, j3, j4⟩ := (g9.2 _ hlt).2.2 hp
      exact ⟨mv, j4.1, (g3 _ hlt).2.2.trans j3⟩
/-- what was found is alike -/
theorem aF_of {σ τ ω : kS} {n R S C mm : Nat} {kl : List Nat} {X : sX} (hX : cX σ τ n R S C X mm) (hs : seY τ ω n R S C kl X) (hl : ∀ c, c < 232 → ω c = τ c) : aF ω n R S := by
  obtain ⟨-, -, -, -, -, -, ⟨s1, s2, s3, s4⟩, s5, s6⟩ := hs
  obtain ⟨-, g2, g3, ⟨w1, w2, w3, w4, w5, w6⟩, -, -, -, g9, g10⟩ := hX
  have l195 := hl 195 (by decide)
  have l196 := hl 196 (by decide)
  have hN6 := g2.1
  unfold aF
  rw [l195, l196, hl 203 (by decide), hl 197 (by decide)]
  by_cases q : X.2.2.2 = 0 ∨ X.2.2.2 = -7
  · have e1 := g10.1 q
    refine ⟨g2.2.1.trans s1.symm, w3.trans s3.symm, w5.trans s4.symm, ?_, ⟨X.1.length, s2, s1⟩, fun z => absurd e1 z⟩
    rw [e1, s5 q]
    rfl
  · have q1 : X.2.2.2 ≠ 0 := fun z => q (Or.inl z)
    have q2 : X.2.2.2 ≠ -7 := fun z => q (Or.inr z)
    obtain ⟨hN, D, d1, d2, d3, d4, d5⟩ := g10.2 q1 q2
    obtain ⟨as, -, a2, a3, a4, a5, a6, a7⟩ := s6 q1 q2
    obtain ⟨b1, b2, b3, b4⟩ := a7 (τ 198) (fun i _ hi => (g3 i hi).2.1)
    have hD : D = as.length := by
      rcases Nat.lt_trichotomy D as.length with z | z | z
      · have := b1 D z
        omega
      · exact z
      · have := d2 as.length z
        omega
    subst hD
    refine ⟨g2.2.1.trans s1.symm, w3.trans s3.symm, w5.trans s4.symm, ?_, ⟨X.1.length, s2, s1⟩, fun _ => ⟨as, X.1.length, hN, s2, s1, a2, a3, a4, fun k hk => ?_, a5, fun i hi => ?_⟩⟩
    · rw [d4, a3]
      exact nnI_nI (by omega)
    · rw [d5 k hk, (g3 _ (b3 (as.length - 1 - k) (by omega))).2.2]
      exact b4 k hk
    · obtain ⟨st, t1, t2, t3⟩ := a6 i hi
      refine ⟨st, t1, t2, fun k hk => ?_⟩
      have hsS := (a5 _ (List.getElem_mem hi)).1
      rw [t3 k hk, aV_at _ hk, ← (g3 (X.1.length - 1) (by omega)).1]
      have : stF τ 197 (28 * (X.1.length - 1)) S (7 * as[i] + 1 + k) = τ 197 (28 * (X.1.length - 1) + 7 * as[i] + 1 + k) := by
        unfold stF
        rw [if_pos (by omega), show 28 * (X.1.length - 1) + (7 * as[i] + 1 + k) = 28 * (X.1.length - 1) + 7 * as[i] + 1 + k by omega]
      rw [this]
theorem aJ_search {σ τ ω : kS} {n b R S C m mm : Nat} {kl : List Nat} {X : sX} (h : aJ σ n b R S C kl m) (hX : cX σ τ n R S C X mm) (hmm : m ≤ mm) (hs : seY τ ω n R S C kl X) : bJ mm ω := by
  have hrl : ∀ c ∈ rowC, 232 ≤ c := by decide
  have hsl : ∀ c ∈ srX, 232 ≤ c := by decide
  have hl : ∀ c, c < 232 → ω c = τ c := fun c hc => hs.2.1 c (fun z => by have := hrl c z; omega) (fun z => by have := hsl c z; omega) (by omega) (by omega) (by omega) (by omega)
  have hF := aF_of hX hs hl
  obtain ⟨⟨b', hI⟩, s2, s3, s4, s5, s6, s7, -⟩ := hs
  have hG := hX.1
  have hi := sF_hi hG.1
  have hlo : ∀ c, 7 ≤ c → c < 195 → ω c = σ c := fun c c1 c2 => (hl c (by omega)).trans (sF_lo hG.1 c c1 c2)
  have hh : ∀ l : List Nat, l.all (fun c => decide (232 < c ∧ c ∉ rowC ∧ c ∉ srX ∧ c ≠ 290 ∧ c ≠ 291 ∧ c ≠ 288 ∧ c ≠ 289)) = true → eqC σ ω l := eqC_of (fun c q => (s2 c q.2.1 q.2.2.1 q.2.2.2.1 q.2.2.2.2.1 q.2.2.2.2.2.1 q.2.2.2.2.2.2).trans (hi c (by omega)))
  have hk : ∀ u, u < 200 → ω 233 u = σ 233 u ∧ ω 234 u = σ 234 u ∧ ω 235 u = σ 235 u := fun u hu => by
    have := s6 u hu
    rw [hi 233 (by decide), hi 234 (by decide), hi 235 (by decide)] at this
    exact this
  have hJ := cJ_cX h hX
  obtain ⟨i1, i2, i3, i4, i5, i6, i7⟩ := id h.1
  have hn := i1.1
  have hR4 := i2.1
  have hS4 := i3.1
  obtain ⟨-, -, hA, aR', aS', aC', aK', aU', -, m1, m2, m3, hm1, -, -, hM1, -, -⟩ := id h
  have er := hh [244, 245, 246, 247, 248, 249, 250, 240, 241, 238, 239, 255, 256, 274, 257, 258, 259, 260, 261, 262, 263] (by decide)
  have hro : ∀ r, roO σ ω r := fun r => by
    unfold roO
    rw [er 244 (by decide), er 245 (by decide), er 246 (by decide), er 247 (by decide), er 248 (by decide), er 249 (by decide), er 250 (by decide)]
    exact ⟨rfl, rfl, rfl, fun k _ => ⟨rfl, rfl, rfl, rfl⟩⟩
  have hsg := fun t (ht : t < n) => mTb_sg i1 hI.1 (Nat.le_refl n) (fun u hu => hk u (by omega)) ht
  have hruns : ω 232 52 = σ 232 52 := (s5 _ (by decide) (by decide) (by decide)).trans (by rw [hi 232 (by decide)])
  have hdid : ω 232 55 = σ 232 55 := (s5 _ (by decide) (by decide) (by decide)).trans (by rw [hi 232 (by decide)])
  have hval : ∀ s k, s < S → k < 6 → ω 265 (6 * s + k) = σ 265 (6 * s + k) := fun s k hs' hk' => by rw [s4 (6 * s + k) (by omega), hi 265 (by decide)]
  have hdo : ∀ s, s < S → ω 264 s = σ 264 s := fun s hs' => by rw [s3 s (by omega), hi 264 (by decide)]
  have eN : ∀ z, z < 776 → ω 2 z = σ 2 z ∧ ω 3 z = σ 3 z ∧ ω 4 z = σ 4 z ∧ ω 5 z = σ 5 z ∧ ω 6 z = σ 6 z := fun z hz => by
    obtain ⟨a1, a2, a3, a4⟩ := hG.1.2 z hz
    rw [hl 2 (by decide), hl 3 (by decide), hl 4 (by decide), hl 5 (by decide), hl 6 (by decide)]
    exact ⟨a1, a2, a3, hG.2.1 z hz, a4⟩
  refine ⟨n, b', R, S, C, kl, hI, cJ_low hl hJ, ⟨fun t ht => ?_, ?_⟩, fun r hr => fR_aR1 i1 i2 ⟨hro r, fun u hu => ⟨(hk u (by omega)).1, (hk u (by omega)).2.1, (hk u (by omega)).2.2, by rw [er 240 (by decide)], by rw [er 241 (by decide)]⟩, fun c c1 c2 => hlo c (by omega) (by omega)⟩ hr (aR' r hr), fun s hs' => fS_aS1 hn i2 i3 hs' ⟨by rw [er 255 (by decide)], fun k _ => by rw [er 256 (by decide)], hro _, fun u _ => by rw [er 238 (by decide)], by rw [hlo 15 (by decide) (by decide)], by rw [hlo 16 (by decide) (by decide)], fun k _ => by rw [hlo 17 (by decide) (by decide)]⟩ (aS' s hs'), fun c hc => fC_aC1 i5 hc ⟨by rw [er 257 (by decide)], by rw [er 258 (by decide)], by rw [er 259 (by decide)], by rw [er 260 (by decide)], by rw [er 261 (by decide)], fun i _ => ⟨by rw [er 262 (by decide)], by rw [er 263 (by decide)]⟩, fun j hj => hlo _ (by omega) (by have := i5.1; omega)⟩ (aC' c hc), aK_eq (by rw [hlo 13 (by decide) (by decide)]) (hlo _ (by decide) (by decide)) aK', ?_, hF, ?_⟩
  · have h1 := hA.1 t ht
    obtain ⟨a1, a2, a3, a4, -⟩ := eN t (by omega)
    obtain ⟨k1, k2, k3⟩ := hk t (by omega)
    obtain ⟨z1, z2⟩ := hsg t ht
    unfold aT1 at h1 ⊢
    rw [a1, a2, a3, a4, k1, k2, k3, z1, z2, hlo 8 (by decide) (by decide), hlo 9 (by decide) (by decide), hlo 10 (by decide) (by decide), hlo 11 (by decide) (by decide), hlo 12 (by decide) (by decide), er 238 (by decide), er 239 (by decide), er 240 (by decide), er 241 (by decide)]
    exact h1
  · have := cCn_sF hn hG.1 hA.2
    unfold cCn cpt at this ⊢
    rw [hl 2 (by decide), hl 3 (by decide), hl 4 (by decide), hl 7 (by decide), hl 6 (by decide)]
    exact this
  · unfold aU at aU' ⊢
    rw [hlo 181 (by decide) (by decide), hlo 17 (by decide) (by decide), hlo 183 (by decide) (by decide), hlo 182 (by decide) (by decide), hruns, hdid, er 274 (by decide)]
    refine ⟨aU'.1, fun q => ?_⟩
    obtain ⟨g1, g2, g3, g5, g4⟩ := aU'.2 q
    refine ⟨g1, g2, fun s hs' => ⟨by rw [hdo s hs']; exact (g3 s hs').1, fun k hk' => by rw [hval s k hs' hk']; exact (g3 s hs').2 k hk'⟩, g5, fun hg => ?_⟩
    obtain ⟨ds, d1, d2, d4, d5, d3⟩ := g4 hg
    refine ⟨ds, d1, d2, d4, d5, ?_⟩
    rcases i6 with i6 | ⟨-, ds', p1, -⟩
    · exact absurd i6 q
    · have e : ds' = ds := lst_inj (mRn_len i2 i3.1 p1) d4 (fun s hs => by have := p1.2.2.1 s hs; omega) (fun s hs => by have := d5 s hs; omega) (p1.1.symm.trans d1) p1.2.1 d2
      subst e
      rw [trRun_cg i1 i2 i4 p1 hk (hh _ (by decide)) hval]
      exact kOk_ot d3 (fun u hu => ⟨fun z hz => eN z (by unfold kV at hz; omega), hlo _ (by decide) (by decide), fun c c1 c2 => hlo c (by omega) (by omega), mA_cg hk, er _ (by decide)⟩)
  · obtain ⟨m2', x1, x2⟩ := hX.2.2.2.2.2.1
    obtain ⟨u, m3', l, y1, y2⟩ := hX.2.2.2.2.2.2.1
    exact ⟨m1, m2', m3', by omega, x1, y1, kMs_eq (fun c c1 c2 => hlo c (by omega) (by omega)) hM1, kMs_eq (fun c c1 c2 => hl c (by omega)) x2, kMs_eq (fun c c1 c2 => hl c (by omega)) y2.2.2.2.2.2.1⟩
set_option maxRecDepth 100000 in
set_option maxHeartbeats 4000000 in
theorem bo_search (L : Nat) (xs : Nat → Int32) (d d' m : Nat) (σ : kS) (h : bJ m σ) (hm : m < 2147470000) : kXM kT L xs (d + 58) 132 [.ref 0] σ (fun r τ => ∃ z, r = some (.int z) ∧ kXM kT L xs (d' + 11) 220 [.ref 232] τ (fun r' ω => r' = some (.int z) ∧ bJ (m + 2401) ω)) := by
  obtain ⟨n, b, R, S, C, kl, h⟩ := h
  obtain ⟨ok0, ok1⟩ := a0_ok h
  refine kXM_mono (mX_search L xs d σ n b R S C m kl h hm _ rfl) ?_
  rintro r τ ⟨rfl, hX⟩
  refine ⟨_, rfl, ?_⟩
  have hi := sF_hi hX.1.1
  refine kXM_mono (mY_search L xs d' τ n b R S C kl (mI_hi hi h.1) (stF σ 17 0 S) (aOk_hi hi ok0) ok1 (fun s k hs hk => ?_) _ (sSr_c (eqC_of (P := fun c => 232 ≤ c) (fun c hc => hi c hc) _ (by decide))).symm) ?_
  · rw [hi 244 (by decide), hi 255 (by decide), hi 256 (by decide), aV_at _ hk]
    have : stF σ 17 0 S (7 * s + 1 + k) = σ 17 (7 * s + 1 + k) := by
      unfold stF
      rw [if_pos (by omega), Nat.zero_add]
    rw [this]
    exact (h.2.2.2.2.1 s hs).2.2.1 k hk
  · rintro r ω ⟨rfl, hs⟩
    exact ⟨rfl, aJ_search h hX (by omega) hs⟩
