/-! alike: what stays when TERMS come -/
/-- nothing has changed but TERMS from n on and the row, on both sides -/
def fG (σ ω : kS) (n : Nat) : Prop := (∀ c, 232 < c → c ∉ rowC → c ≠ 238 → c ≠ 240 → c ≠ 239 → c ≠ 241 → ω c = σ c) ∧ (∀ j, j ∉ rowT → ω 232 j = σ 232 j) ∧ (∀ u, u < n → ω 233 u = σ 233 u ∧ ω 234 u = σ 234 u ∧ ω 235 u = σ 235 u ∧ ω 240 u = σ 240 u ∧ ω 241 u = σ 241 u ∧ ω 238 u = σ 238 u) ∧ ∀ c, 13 ≤ c → c < 232 → ω c = σ c
theorem fG_R {σ ω : kS} {n r : Nat} (hF : fG σ ω n) (hr : r < 4) : fR σ ω r n := by
  obtain ⟨h1, h2, h3, h4⟩ := hF
  have c := fun c (k1 : 232 < c) (k2 : c ∉ rowC) (k3 : c ≠ 238) (k4 : c ≠ 240) (k5 : c ≠ 239) (k6 : c ≠ 241) => h1 c k1 k2 k3 k4 k5 k6
  refine ⟨?_, fun u hu => ⟨(h3 u hu).1, (h3 u hu).2.1, (h3 u hu).2.2.1, (h3 u hu).2.2.2.1, (h3 u hu).2.2.2.2.1⟩, fun c c1 c2 => h4 c (by omega) (by omega)⟩
  unfold roO
  rw [c 244 (by decide) (by decide) (by decide) (by decide) (by decide) (by decide), c 247 (by decide) (by decide) (by decide) (by decide) (by decide) (by decide), c 250 (by decide) (by decide) (by decide) (by decide) (by decide) (by decide), c 245 (by decide) (by decide) (by decide) (by decide) (by decide) (by decide), c 246 (by decide) (by decide) (by decide) (by decide) (by decide) (by decide), c 248 (by decide) (by decide) (by decide) (by decide) (by decide) (by decide), c 249 (by decide) (by decide) (by decide) (by decide) (by decide) (by decide)]
  exact ⟨rfl, rfl, rfl, fun k _ => ⟨rfl, rfl, rfl, rfl⟩⟩
theorem fG_S {σ ω : kS} {n R S s : Nat} (hF : fG σ ω n) (hR : mRo σ n R) (hS : mSe σ n R S) (hs : s < S) : fS σ ω s n := by
  obtain ⟨r, r1, r2, -⟩ := hS.2.2 s hs
  have hr4 := hR.1
  have hr : fN (σ 255 s) = r := by rw [r2, fN_nI (by omega)]
  have hO := (fG_R hF (r := r) (by omega)).1
  obtain ⟨h1, h2, h3, h4⟩ := hF
  refine ⟨by rw [h1 255 (by decide) (by decide) (by decide) (by decide) (by decide) (by decide)], fun k _ => by rw [h1 256 (by decide) (by decide) (by decide) (by decide) (by decide) (by decide)], by rw [hr]; exact hO, fun u hu => (h3 u hu).2.2.2.2.2, by rw [h4 _ (by decide) (by decide)], by rw [h4 _ (by decide) (by decide)], fun k _ => by rw [h4 _ (by decide) (by decide)]⟩
theorem fG_C {σ ω : kS} {n c : Nat} (hF : fG σ ω n) (hc : c < 6) : fC σ ω c := by
  obtain ⟨h1, h2, h3, h4⟩ := hF
  refine ⟨by rw [h1 257 (by decide) (by decide) (by decide) (by decide) (by decide) (by decide)], by rw [h1 258 (by decide) (by decide) (by decide) (by decide) (by decide) (by decide)], by rw [h1 259 (by decide) (by decide) (by decide) (by decide) (by decide) (by decide)], by rw [h1 260 (by decide) (by decide) (by decide) (by decide) (by decide) (by decide)], by rw [h1 261 (by decide) (by decide) (by decide) (by decide) (by decide) (by decide)], fun i _ => ⟨by rw [h1 262 (by decide) (by decide) (by decide) (by decide) (by decide) (by decide)], by rw [h1 263 (by decide) (by decide) (by decide) (by decide) (by decide) (by decide)]⟩, fun j hj => h4 _ (by omega) (by omega)⟩
theorem aK_eq {σ ω : kS} {kl : List Nat} (e1 : ω 13 10 = σ 13 10) (e2 : ω 19 = σ 19) (h : aK σ kl) : aK ω kl := by
  unfold aK
  rw [e1, e2]
  exact h
/-- what was found stays: by its cells, and the roles of SESSIONS -/
theorem aF_fr {σ ω : kS} {n n' b R S : Nat} (h : mTb σ n b) (hR : mRo σ n R) (hSe : mSe σ n R S) (e1 : ω 196 = σ 196) (e2 : ω 195 = σ 195) (e3 : ω 197 = σ 197) (e4 : ω 203 = σ 203) (eO : ω 232 69 = σ 232 69 ∧ ω 232 70 = σ 232 70 ∧ ω 232 71 = σ 232 71 ∧ ω 232 72 = σ 232 72) (e5 : ω 288 = σ 288) (e6 : ω 289 = σ 289) (e7 : ω 285 = σ 285) (e8 : ∀ s, s < S → ω 255 s = σ 255 s) (hF : ∀ s, s < S → fR σ ω (fN (σ 255 s)) n) (hA : aF σ n R S) : aF ω n' R S := by
  obtain ⟨a1, a2, a3, a4, a5, a6⟩ := hA
  unfold aF
  rw [e1, e2, e3, e4, eO.1, eO.2.1, eO.2.2.1, eO.2.2.2, e5, e6, e7]
  refine ⟨a1, a2, a3, a4, a5, fun q => ?_⟩
  obtain ⟨as, N, b1, b2, b3, b4, b5, b6, b7, b8, b9⟩ := a6 q
  refine ⟨as, N, b1, b2, b3, b4, b5, b6, b7, fun s hs => ?_, fun i hi => ?_⟩
  · obtain ⟨c1, c2⟩ := b8 s hs
    refine ⟨c1, ?_⟩
    rw [e8 s c1, (hF s c1).1.2.1]
    exact c2
  · obtain ⟨st, s1, s2, s3⟩ := b9 i hi
    obtain ⟨c1, c2⟩ := b8 _ (List.getElem_mem hi)
    obtain ⟨r, r1, r2, -⟩ := hSe.2.2 _ c1
    have hfr : fN (σ 255 as[i]) = r := by rw [r2]; exact fN_nI (by have := hR.1; omega)
    have hcnt : (as.take i).count as[i] + 1 ≤ as.count as[i] := by
      have := count_take_le as as[i] (i + 1)
      rw [List.take_succ_eq_append_getElem hi, List.count_append] at this
      simp at this
      omega
    refine ⟨st, s1, s2, fun k hk => ?_⟩
    rw [s3 k hk, e8 _ c1, hfr]
    have hFr := hF _ c1
    rw [hfr] at c2 hFr
    rw [propext (fR_bdv h hR hFr r1 (by omega))]
theorem aB_gr {σ ω : kS} {n n' b R S C m : Nat} {kl : List Nat} (hI : mI σ n b R S C kl) (hJ : cJ σ n R S C) (hF : fG σ ω n) (hn : n < n') (hn2 : n' ≤ 200) (h : aB σ n R S C kl m) : aB ω n' R S C kl m := by
  obtain ⟨h1, h2, h3, h4, h5, h6, h7⟩ := h
  obtain ⟨i1, i2, i3, i4, i5, i6, i7⟩ := hI
  have hR4 := i2.1
  have c := fun c (k1 : 232 < c) (k2 : c ∉ rowC) (k3 : c ≠ 238) (k4 : c ≠ 240) (k5 : c ≠ 239) (k6 : c ≠ 241) => hF.1 c k1 k2 k3 k4 k5 k6
  have e := hF.2.2.2
  refine ⟨fun r hr => fR_aR1 i1 i2 (fG_R hF (by omega)) hr (h1 r hr), fun s hs => fS_aS1 i1.1 i2 i3 hs (fG_S hF i2 i3 hs) (h2 s hs), fun c hc => fC_aC1 i5 hc (fG_C hF (by have := i5.1; omega)) (h3 c hc), aK_eq (by rw [e 13 (by decide) (by decide)]) (e _ (by decide) (by decide)) h4, ?_, ?_, aM_eq (Nat.le_refl _) (fun c c1 c2 => e c (by omega) (by omega)) h7⟩
  · unfold aU at h5 ⊢
    rw [e 181 (by decide) (by decide), e 17 (by decide) (by decide), e 183 (by decide) (by decide), e 182 (by decide) (by decide), hF.2.1 52 (by decide), hF.2.1 55 (by decide), c 274 (by decide) (by decide) (by decide) (by decide) (by decide) (by decide), c 264 (by decide) (by decide) (by decide) (by decide) (by decide) (by decide), c 265 (by decide) (by decide) (by decide) (by decide) (by decide) (by decide)]
    refine ⟨h5.1, fun q => ?_⟩
    obtain ⟨g1, g2, g3, g5, -⟩ := h5.2 q
    refine ⟨g1, g2, g3, g5, fun hg => ?_⟩
    have hon := h5.1.mpr q
    rcases hJ.2.2.2.2.2.2.2.2.1 with z | ⟨-, -, -, z⟩
    · exact absurd z hon
    · rcases z with z | ⟨g, z1, z2, -⟩
      · rw [z] at hg
        exact absurd hg.symm (nI_m1 (by omega))
      · rw [z2] at hg
        have := nI_inj hg (by omega) (by omega)
        omega
  · refine aF_fr i1 i2 i3 (e _ (by decide) (by decide)) (e _ (by decide) (by decide)) (e _ (by decide) (by decide)) (e _ (by decide) (by decide)) ⟨hF.2.1 _ (by decide), hF.2.1 _ (by decide), hF.2.1 _ (by decide), hF.2.1 _ (by decide)⟩ (c _ (by decide) (by decide) (by decide) (by decide) (by decide) (by decide)) (c _ (by decide) (by decide) (by decide) (by decide) (by decide) (by decide)) (c _ (by decide) (by decide) (by decide) (by decide) (by decide) (by decide)) (fun s _ => by rw [c 255 (by decide) (by decide) (by decide) (by decide) (by decide) (by decide)]) (fun s hs => ?_) h6
    obtain ⟨r, r1, r2, -⟩ := i3.2.2 s hs
    exact fG_R hF (by rw [r2, fN_nI (by omega)]; omega)
