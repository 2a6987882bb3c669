/-! alike: TERMS that come -/
theorem bJ_up {m m' : Nat} {σ : kS} (hm : m ≤ m') (h : bJ m σ) : bJ m' σ := by
  obtain ⟨n, b, R, S, C, kl, h1, h2, h3, h4, h5, h6, h7, h8, h9, h10⟩ := h
  exact ⟨n, b, R, S, C, kl, h1, h2, h3, h4, h5, h6, h7, h8, h9, aM_eq hm (fun _ _ _ => rfl) h10⟩
theorem fG_fr {σ ω : kS} {n : Nat} (hn : n ≤ 200) (hl : ∀ c, c < 232 → ω c = σ c) (hF : mFr σ ω n) : fG σ ω n := by
  refine ⟨fun c _ h2 _ _ _ _ => hF.1 c h2, fun j hj => hF.2.1 j (fun q => hj (List.mem_cons_of_mem _ q)), fun u hu => ⟨(hF.2.2 u (by omega)).1, (hF.2.2 u (by omega)).2.1, (hF.2.2 u (by omega)).2.2, by rw [hF.1 240 (by decide)], by rw [hF.1 241 (by decide)], by rw [hF.1 238 (by decide)]⟩, fun c _ c2 => hl c c2⟩
theorem lst_inj {A : Nat → Int32} {l l' : List Nat} (h1 : l.length ≤ 24) (h2 : l'.length ≤ 24) (h3 : ∀ s ∈ l, s < 4) (h4 : ∀ s ∈ l', s < 4) (e : nI l.length = nI l'.length) (a : lst A l) (b : lst A l') : l = l' := by
  have el : l.length = l'.length := nI_inj e
  refine List.ext_getElem el (fun i i1 i2 => ?_)
  have := (a i i1).symm.trans (b i i2)
  have q1 := h3 _ (List.getElem_mem i1)
  have q2 := h4 _ (List.getElem_mem i2)
  exact nI_inj this
/-- the class's own parts stay when its cells do -/
theorem aT_low {σ ω : kS} {n : Nat} (hl : ∀ c, c < 232 → ω c = σ c) (hr : ∀ t, t < n → ω 233 t = σ 233 t ∧ ω 234 t = σ 234 t ∧ ω 235 t = σ 235 t ∧ ω 236 t = σ 236 t ∧ ω 237 t = σ 237 t ∧ ω 238 t = σ 238 t ∧ ω 239 t = σ 239 t ∧ ω 240 t = σ 240 t ∧ ω 241 t = σ 241 t) (h : aT σ n) : aT ω n := by
  constructor
  · intro t ht
    obtain ⟨e1, e2, e3, e4, e5, e6, e7, e8, e9⟩ := hr t ht
    have := h.1 t ht
    unfold aT1 at this ⊢
    rw [hl 2 (by decide), hl 3 (by decide), hl 4 (by decide), hl 5 (by decide), hl 8 (by decide), hl 9 (by decide), hl 10 (by decide), hl 11 (by decide), hl 12 (by decide), e1, e2, e3, e4, e5, e6, e7, e8, e9]
    exact this
  · have := h.2
    unfold cCn cpt at this ⊢
    rw [hl 2 (by decide), hl 3 (by decide), hl 4 (by decide), hl 7 (by decide), hl 6 (by decide)]
    exact this
/-- sizes and ground of numbered TERMS are told by the tree -/
theorem mTb_sg {σ ω : kS} {n b n' b' t : Nat} (h : mTb σ n b) (h' : mTb ω n' b') (hn : n ≤ n') (hF : ∀ u, u < n → ω 233 u = σ 233 u ∧ ω 234 u = σ 234 u ∧ ω 235 u = σ 235 u) (ht : t < n) : ω 236 t = σ 236 t ∧ ω 237 t = σ 237 t := by
  have e := fT_all h hF ht
  have es : tsz (ω 233) (ω 234) (ω 235) t = tsz (σ 233) (σ 234) (σ 235) t := tA_congr (mTb_num h) (fun u hu => ⟨(hF u hu).1, (hF u hu).2.1, (hF u hu).2.2, rfl⟩) t ht
  constructor
  · rw [h'.2.2.2.2.2.1.2.1 t (Or.inl (by omega)), h.2.2.2.2.2.1.2.1 t (Or.inl ht), es]
  · rw [h'.2.2.2.2.2.2.1 t (Or.inl (by omega)), h.2.2.2.2.2.2.1 t (Or.inl ht), e.2.1]
/-- nothing but the reference's row has changed -/
theorem aB_fr {σ ω : kS} {n b R S C m : Nat} {kl : List Nat} (hI : mI σ n b R S C kl) (hl : ∀ c, c < 232 → ω c = σ c) (hF : mFr σ ω n) (h : aB σ n R S C kl m) : aB ω n R S C kl m := by
  have hG := fG_fr hI.1.1 hl hF
  obtain ⟨h1, h2, h3, h4, h5, h6, h7⟩ := h
  obtain ⟨i1, i2, i3, i4, i5, i6, i7⟩ := hI
  have hR4 := i2.1
  refine ⟨fun r hr => fR_aR1 i1 i2 (fG_R hG (by omega)) hr (h1 r hr), fun s hs => fS_aS1 i1.1 i2 i3 hs (fG_S hG i2 i3 hs) (h2 s hs), fun c hc => fC_aC1 i5 hc (fG_C hG (by have := i5.1; omega)) (h3 c hc), aK_eq (by rw [hl 13 (by decide)]) (hl _ (by decide)) h4, ?_, ?_, aM_eq (Nat.le_refl _) (fun c c1 c2 => hl c (by omega)) h7⟩
  · unfold aU at h5 ⊢
    rw [hl 181 (by decide), hl 17 (by decide), hl 183 (by decide), hl 182 (by decide), hF.2.1 52 (by decide), hF.2.1 55 (by decide), hF.1 274 (by decide), hF.1 264 (by decide), hF.1 265 (by decide)]
    refine ⟨h5.1, fun q => ?_⟩
    obtain ⟨g1, g2, g3, g5, g4⟩ := h5.2 q
    refine ⟨g1, g2, g3, g5, fun hg => ?_⟩
    obtain ⟨ds, d1, d2, d4, d5, d3⟩ := g4 hg
    refine ⟨ds, d1, d2, d4, d5, ?_⟩
    rcases i6 with i6 | ⟨-, ds', p1, -⟩
    · exact absurd i6 q
    · have e : ds' = ds := lst_inj (mRn_len i2 i3.1 p1) d4 (fun s hs => by have := p1.2.2.1 s hs; have := i3.1; omega) (fun s hs => by have := d5 s hs; have := i3.1; omega) (p1.1.symm.trans d1) p1.2.1 d2
      subst e
      rw [mFr_trRun i1 i2 hF i4 p1]
      exact kOk_eq (fun c _ c2 => hl c (by omega)) (fun c _ c2 => hl c (by omega)) (fun t ht => (hF.2.2 t ht).1) (hF.1 _ (by decide)) d3
  · refine aF_fr i1 i2 i3 (hl _ (by decide)) (hl _ (by decide)) (hl _ (by decide)) (hl _ (by decide)) ⟨hF.2.1 _ (by decide), hF.2.1 _ (by decide), hF.2.1 _ (by decide), hF.2.1 _ (by decide)⟩ (hF.1 _ (by decide)) (hF.1 _ (by decide)) (hF.1 _ (by decide)) (fun s _ => by rw [hF.1 255 (by decide)]) (fun s hs => ?_) h6
    obtain ⟨r, r1, r2, -⟩ := i3.2.2 s hs
    exact fG_R hG (by rw [r2, fN_nI (by omega)]; omega)
/-- only the reference's row has changed: all stays alike -/
theorem bJ_fr {σ ω : kS} {n b b' R S C m : Nat} {kl : List Nat} (h : aJ σ n b R S C kl m) (hl : ∀ c, c < 232 → ω c = σ c) (hF : mFr σ ω n) (hI : mI ω n b' R S C kl) : bJ m ω := by
  obtain ⟨h1, h2, h3, h4⟩ := h
  have hn := h1.1.1
  refine ⟨n, b', R, S, C, kl, hI, cJ_low hl h2, aT_low hl (fun t ht => ?_) h3, aB_fr h1 hl hF h4⟩
  have hk : ∀ u, u < n → ω 233 u = σ 233 u ∧ ω 234 u = σ 234 u ∧ ω 235 u = σ 235 u := fun u hu => hF.2.2 u (by omega)
  have := mTb_sg h1.1 hI.1 (Nat.le_refl _) hk ht
  exact ⟨(hk t ht).1, (hk t ht).2.1, (hk t ht).2.2, this.1, this.2, by rw [hF.1 238 (by decide)], by rw [hF.1 239 (by decide)], by rw [hF.1 240 (by decide)], by rw [hF.1 241 (by decide)]⟩
/-- a TERM more on both sides: τ behind the class, ω behind the reference -/
theorem bJ_new {σ τ ω : kS} {n b R S C m : Nat} {kl : List Nat} (h : aJ σ n b R S C kl m) (hT : cT τ (n + 1)) (hG : cGr σ τ n) (hcl : ∀ t, t < n → τ 2 t = σ 2 t ∧ τ 3 t = σ 3 t ∧ τ 4 t = σ 4 t ∧ τ 5 t = σ 5 t ∧ τ 8 t = σ 8 t ∧ τ 9 t = σ 9 t ∧ τ 10 t = σ 10 t ∧ τ 11 t = σ 11 t ∧ τ 12 t = σ 12 t) (hC : cCn τ (n + 1)) (hI : mI ω (n + 1) 200 R S C kl) (hL : mLow τ ω)
    (hc : ∀ c, 232 < c → c ∉ rowC → c ≠ 238 → c ≠ 240 → c ≠ 239 → c ≠ 241 → ω c = τ c) (ho : ∀ j, j ∉ rowT → ω 232 j = τ 232 j) (hr : ∀ u, u < n → ω 233 u = τ 233 u ∧ ω 234 u = τ 234 u ∧ ω 235 u = τ 235 u ∧ ω 240 u = τ 240 u ∧ ω 241 u = τ 241 u ∧ ω 238 u = τ 238 u ∧ ω 239 u = τ 239 u) (hnew : aT1 ω n) : bJ m ω := by
  obtain ⟨h1, h2, h3, h4⟩ := h
  have hn := hT.1
  have hi := cGr_hi hG
  have hk : ∀ u, u < n → ω 233 u = σ 233 u ∧ ω 234 u = σ 234 u ∧ ω 235 u = σ 235 u := fun u hu => by
    have := hr u hu
    rw [hi 233 (by decide), hi 234 (by decide), hi 235 (by decide)] at this
    exact ⟨this.1, this.2.1, this.2.2.1⟩
  have hFG : fG σ ω n := by
    refine ⟨fun c c1 c2 c3 c4 c5 c6 => (hc c c1 c2 c3 c4 c5 c6).trans (hi c (by omega)), fun j hj => (ho j hj).trans (by rw [hi 232 (by decide)]), fun u hu => ?_, fun c c1 c2 => (hL c c2).trans (hG.1 c (fun q => by have := tC_lt q; omega))⟩
    have := hr u hu
    rw [hi 240 (by decide), hi 241 (by decide), hi 238 (by decide)] at this
    exact ⟨(hk u hu).1, (hk u hu).2.1, (hk u hu).2.2, this.2.2.2.1, this.2.2.2.2.1, this.2.2.2.2.2.1⟩
  refine ⟨n + 1, 200, R, S, C, kl, hI, cJ_low hL (cJ_gr h2 hG (by omega) hT), ⟨fun t ht => ?_, ?_⟩, aB_gr h1 h2 hFG (by omega) hn h4⟩
  · by_cases e : t = n
    · subst e
      exact hnew
    · have ht : t < n := by omega
      obtain ⟨g1, g2, g3, g4, g5, g6, g7, g8, g9⟩ := hcl t ht
      have hsg := mTb_sg h1.1 hI.1 (by omega) hk ht
      have hrt := hr t ht
      rw [hi 240 (by decide), hi 241 (by decide), hi 238 (by decide), hi 239 (by decide)] at hrt
      have := h3.1 t ht
      unfold aT1 at this ⊢
      rw [hL 2 (by decide), hL 3 (by decide), hL 4 (by decide), hL 5 (by decide), hL 8 (by decide), hL 9 (by decide), hL 10 (by decide), hL 11 (by decide), hL 12 (by decide), g1, g2, g3, g4, g5, g6, g7, g8, g9, (hk t ht).1, (hk t ht).2.1, (hk t ht).2.2, hsg.1, hsg.2, hrt.2.2.2.1, hrt.2.2.2.2.1, hrt.2.2.2.2.2.1, hrt.2.2.2.2.2.2]
      exact this
  · unfold cCn cpt at hC ⊢
    rw [hL 2 (by decide), hL 3 (by decide), hL 4 (by decide), hL 7 (by decide), hL 6 (by decide)]
    exact hC
