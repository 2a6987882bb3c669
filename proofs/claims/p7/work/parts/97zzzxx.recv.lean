/-! alike: receive -/
theorem aJ_fr {σ ω : kS} {n b b' R S C m : Nat} {kl : List Nat} (h : aJ σ n b R S C kl m) (hl : ∀ c, c < 232 → ω c = σ c) (hF : mFr σ ω n) (hI : mI ω n b' R S C kl) : aJ ω n b' R S C kl m := by
  obtain ⟨h1, h2, h3, h4⟩ := h
  have hn := h1.1.1
  refine ⟨hI, cJ_low hl h2, aT_low hl (fun t ht => ?_) h3, aB_fr h1 hl hF h4⟩
  have hk : ∀ u, u < n → ω 233 u = σ 233 u ∧ ω 234 u = σ 234 u ∧ ω 235 u = σ 235 u := fun u hu => hF.2.2 u (by omega)
  have := mTb_sg h1.1 hI.1 (Nat.le_refl _) hk ht
  exact ⟨(hk t ht).1, (hk t ht).2.1, (hk t ht).2.2, this.1, this.2, by rw [hF.1 238 (by decide)], by rw [hF.1 239 (by decide)], by rw [hF.1 240 (by decide)], by rw [hF.1 241 (by decide)]⟩
theorem aJ_run2 {σ ω : kS} {n b b' R S C m : Nat} {kl : List Nat} (h : aJ σ n b R S C kl m) (hI : mI ω n b' R S C kl) (hJ : cJ ω n R S C) (e : ∀ c, c < 181 ∨ (186 ≤ c ∧ c < 232) → ω c = σ c) (er : ∀ c, 232 < c → c ≠ 264 → c ≠ 265 → c ≠ 274 → c ≠ 275 → ω c = σ c) (eo : ∀ j, j ≠ 52 → j ≠ 55 → j ≠ 47 → ω 232 j = σ 232 j) (hU : aU ω n S kl) : aJ ω n b' R S C kl m := by
  obtain ⟨i, -, t, r, s, c, k, -, f, mm⟩ := h
  have hr : ∀ l : List Nat, l.all (fun c => decide (232 < c ∧ c ≠ 264 ∧ c ≠ 265 ∧ c ≠ 274 ∧ c ≠ 275)) = true → eqC σ ω l := eqC_of (fun c q => er c q.1 q.2.1 q.2.2.1 q.2.2.2.1 q.2.2.2.2)
  have hl : ∀ c, c < 181 → ω c = σ c := fun c hc => e c (by omega)
  have hh : ∀ c, 186 ≤ c → c < 232 → ω c = σ c := fun c c1 c2 => e c (by omega)
  exact ⟨hI, hJ, aT_c (fun c c1 c2 => hl c (by omega)) (hr _ (by decide)) t, aR_c i.1 i.2.1 (fun c c1 c2 => hl c (by omega)) (hr _ (by decide)) r, aS_c i.1.1 i.2.1 i.2.2.1 (hl _ (by decide)) (hl _ (by decide)) (hl _ (by decide)) (hr _ (by decide)) s, aC_c i.2.2.2.2.1 (fun c c1 c2 => hl c (by omega)) (hr _ (by decide)) c, aK_eq (by rw [hl 13 (by decide)]) (hl _ (by decide)) k, hU, aF_c i.1 i.2.1 i.2.2.1 (fun c c1 c2 => hl c (by omega)) (hr _ (by decide)) (hh _ (by decide) (by decide)) (hh _ (by decide) (by decide)) (hh _ (by decide) (by decide)) (hh _ (by decide) (by decide)) ⟨eo _ (by decide) (by decide) (by decide), eo _ (by decide) (by decide) (by decide), eo _ (by decide) (by decide) (by decide), eo _ (by decide) (by decide) (by decide)⟩ (hr _ (by decide)) f, aM_eq (Nat.le_refl _) (fun c c1 c2 => hh c c1 (by omega)) mm⟩
/-- what stands for the VARIABLES of the RUN -/
theorem aU_tr {σ : kS} {n b R S C m s k : Nat} {kl : List Nat} (h : aJ σ n b R S C kl m) (hr0 : σ 232 52 ≠ 0) (hs : s < S) (hk : k < 6) : trR n (σ 182 (7 * s + 1 + k)) (σ 265 (6 * s + k)) := by
  have hn := h.1.1.1
  have hU := h.2.2.2.2.2.2.2.1
  have e := ((hU.2 hr0).2.2.1 s hs).2 k hk
  rcases h.2.1.2.2.2.2.2.2.2.2.1 with z | ⟨-, -, hcV, -⟩
  · exact absurd z (fun z => hU.1.mpr hr0 z)
  · have := hcV s k hs hk
    rw [show 0 + 7 * s + 1 + k = 7 * s + 1 + k by omega] at this
    rcases this with q | ⟨z, z1, z2, -⟩
    · rw [q] at e
      exact Or.inl ⟨q, e.symm⟩
    · rw [z2, nnI_nI (by omega)] at e
      exact Or.inr ⟨z, z1, z2, e.symm⟩
/-- the RUN goes on with what was received -/
theorem aJ_recv {σ τ ρ ω : kS} {n b b' R S C m s r k mm : Nat} {kl ds : List Nat} {V a : Nat → Int32} (h : aJ τ n b R S C kl m) (hr0 : τ 232 52 ≠ 0) (hD : mRn τ n R S ds) (hs : s < S) (hlen : ds.length < 24)
    (hσ : ∀ c, c ≠ 185 → c ≠ 182 → σ c = τ c) (hat : ∀ k, k < 6 → trR n (σ 182 (7 * s + 1 + k)) (a k)) (hat2 : ∀ i, (∀ k, k < 6 → i ≠ 7 * s + 1 + k) → σ 182 i = τ 182 i)
    (hω : ω = spS σ s ds.length) (hJ : cJ ω n R S C) (hF : mFr ω ρ n) (hI : mI ρ n b' R S C kl) (hV1 : ∀ j, (∀ k, k < 6 → j ≠ 6 * s + k) → V j = τ 265 j) (hV2 : ∀ k, k < 6 → V (6 * s + k) = a k) (hk1 : ∀ k, ¬ τ 265 (6 * s + k) < 0 → a k = τ 265 (6 * s + k)) (hd : τ 264 s = nI (ds.count s)) (hI2 : mI (stS ρ V s ds.length (ds.count s) (nI mm)) n b' R S C kl) : aJ (stS ρ V s ds.length (ds.count s) (nI mm)) n b' R S C kl m := by
  have hn := h.1.1.1
  have hU := h.2.2.2.2.2.2.2.1
  obtain ⟨uc, um, uv, uo, -⟩ := hU.2 hr0
  have eω : ∀ c, c < 181 ∨ 186 ≤ c → ω c = τ c := fun c hc => by
    rw [hω]
    unfold spS
    rw [up_ne (by omega), up_ne (by omega), up_ne (by omega)]
    exact hσ c (by omega) (by omega)
  have hl : ∀ c, c < 232 → ρ c = ω c := mLow_fr hF
  have hst : ∀ c, c ≠ 265 → c ≠ 274 → c ≠ 275 → c ≠ 232 → c ≠ 264 → stS ρ V s ds.length (ds.count s) (nI mm) c = ρ c := fun c c1 c2 c3 c4 c5 => by
    unfold stS
    rw [up_ne c5, up_ne c4, up_ne c3, up_ne c2, up_ne c1]
  have hρ0 : ∀ c, 232 ≤ c → hiS ρ τ c = ρ c := fun c hc => if_pos hc
  have hρl : ∀ c, c < 232 → hiS ρ τ c = τ c := fun c hc => if_neg (by omega)
  have hF0 : mFr τ (hiS ρ τ) n := by
    refine ⟨fun c hc => ?_, fun j hj => ?_, fun u hu => ?_⟩
    · by_cases q : 232 ≤ c
      · rw [hρ0 c q, hF.1 c hc]
        exact eω c (by omega)
      · exact hρl c (by omega)
    · rw [hρ0 232 (by decide), hF.2.1 j hj, eω 232 (by decide)]
    · have := hF.2.2 u hu
      rw [hρ0 233 (by decide), hρ0 234 (by decide), hρ0 235 (by decide)]
      rw [eω 233 (by decide), eω 234 (by decide), eω 235 (by decide)] at this
      exact this
  have h0 : aJ (hiS ρ τ) n b' R S C kl m := aJ_fr h hρl hF0 (mI_hi hρ0 hI)
  have hlow : ∀ c, c < 232 → stS ρ V s ds.length (ds.count s) (nI mm) c = ω c := fun c hc => (hst c (by omega) (by omega) (by omega) (by omega) (by omega)).trans (hl c hc)
  refine aJ_run2 h0 hI2 (cJ_low hlow hJ) (fun c hc => ?_) (fun c c1 c2 c3 c4 c5 => ?_) (fun j j1 j2 j3 => ?_) ?_
  · rw [hlow c (by omega), hρl c (by omega)]
    exact eω c (by omega)
  · rw [hst c c3 c4 c5 (by omega) c2, hρ0 c (by omega)]
  · rw [hρ0 232 (by decide)]
    show upd (ρ 232) 55 (nI (ds.length + 1)) j = ρ 232 j
    exact pk_un j2
  · have l181 : stS ρ V s ds.length (ds.count s) (nI mm) 181 = upd (upd (τ 181) 7 (nI (ds.length + 1))) 9 (-1) := by
      rw [hlow 181 (by decide), hω]
      show upd (upd (σ 181) 7 (nI (ds.length + 1))) 9 (-1) = _
      rw [hσ 181 (by decide) (by decide)]
    have lmv : stS ρ V s ds.length (ds.count s) (nI mm) 183 = upd (τ 183) ds.length (nI s) := by
      rw [hlow 183 (by decide), hω]
      show upd (σ 183) ds.length (nI s) = _
      rw [hσ 183 (by decide) (by decide)]
    have hat7 : σ 182 (7 * s) = nI (ds.count s) := by rw [hat2 (7 * s) (fun k hk => by omega), (uv s hs).1, hd]
    have lat : stS ρ V s ds.length (ds.count s) (nI mm) 182 = upd (σ 182) (7 * s) (nI (ds.count s + 1)) := by
      rw [hlow 182 (by decide), hω]
      show upd (σ 182) (7 * s) (σ 182 (7 * s) + Int32.ofInt 1) = _
      rw [hat7, ← nI_1]
      rfl
    have lop : stS ρ V s ds.length (ds.count s) (nI mm) 17 = τ 17 := by
      rw [hlow 17 (by decide)]
      exact eω _ (by decide)
    have l232 : stS ρ V s ds.length (ds.count s) (nI mm) 232 = upd (ρ 232) 55 (nI (ds.length + 1)) := rfl
    have ldo : stS ρ V s ds.length (ds.count s) (nI mm) 264 = upd (τ 264) s (nI (ds.count s + 1)) := by
      show upd (ρ 264) s (nI (ds.count s + 1)) = _
      rw [hF.1 264 (by decide), eω 264 (by decide)]
    have lva : stS ρ V s ds.length (ds.count s) (nI mm) 265 = V := rfl
    have lds : stS ρ V s ds.length (ds.count s) (nI mm) 274 = upd (τ 274) ds.length (nI s) := by
      show upd (ρ 274) ds.length (nI s) = _
      rw [hF.1 274 (by decide), eω 274 (by decide)]
    have lru : ρ 232 52 = τ 232 52 := by rw [hF.2.1 52 (by decide), eω 232 (by decide)]
    unfold aU
    rw [l181, lmv, lat, lop, l232, ldo, lva, lds, pk_un (show 52 ≠ 55 by decide), lru]
    refine ⟨hU.1, fun _ => ⟨rfl, fun i hi => ?_, fun s' hs' => ⟨?_, fun k hk => ?_⟩, fun s' hs' k hk ho => ?_, fun z => absurd z.symm (nI_m1 (by omega))⟩⟩
    · by_cases e : i = ds.length
      · subst e
        rw [pk_us, pk_us]
      · rw [pk_un e, pk_un e]
        refine um i ?_
        have hi' : i < fN (nI (ds.length + 1)) := hi
        rw [fN_nI (by omega)] at hi'
        rw [hD.1, fN_nI (by omega)]
        omega
    · by_cases e : s' = s
      · subst e
        rw [pk_us, pk_us]
      · rw [pk_un (by omega), pk_un e, hat2 (7 * s') (fun k hk => by omega)]
        exact (uv s' hs').1
    · rw [pk_un (by omega)]
      by_cases e : s' = s
      · subst e
        rw [hV2 k hk]
        rcases hat k hk with ⟨q1, q2⟩ | ⟨z, z1, z2, z3⟩
        · rw [q1, q2]
          rfl
        · rw [z2, z3]
          exact nnI_nI (by omega)
      · rw [hV1 (6 * s' + k) (fun k' hk' => by omega), hat2 (7 * s' + 1 + k) (fun k' hk' => by omega)]
        exact (uv s' hs').2 k hk
    · rw [pk_un (by omega)]
      by_cases e : s' = s
      · subst e
        have h1 := uo s' hs' k hk ho
        have h2 := aU_tr h hr0 hs' hk
        rw [h1] at h2
        rcases h2 with q | ⟨z, z1, z2, z3⟩
        · exact absurd q.1 ho
        · have h3 := hk1 k (by rw [z3]; exact nI_pos (by omega))
          rw [z3] at h3
          rcases hat k hk with ⟨q1, q2⟩ | ⟨w, w1, w2, w3⟩
          · rw [h3] at q2
            exact absurd (show nI z < 0 by rw [q2]; decide) (nI_pos (by omega))
          · rw [w2, z2]
            exact w3.symm.trans h3
      · rw [hat2 (7 * s' + 1 + k) (fun k' hk' => by omega)]
        exact uo s' hs' k hk ho
