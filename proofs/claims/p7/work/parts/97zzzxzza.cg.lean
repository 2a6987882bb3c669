/-! alike: a STATE's row and claims, from another place -/
def sxC : List Nat := [241, 249, 248, 255, 238, 244, 246, 247, 257, 258, 259, 260, 261, 262, 263]
theorem tin_cg {σ τ : kS} {n b s : Nat} (h : mTb σ n b) (hF2 : ∀ u, u < n → τ 233 u = σ 233 u ∧ τ 234 u = σ 234 u ∧ τ 235 u = σ 235 u) (ho : τ 241 = σ 241) : ∀ t, t < n → (∀ u ∈ tvs (σ 233) (σ 234) (σ 235) t, ∃ p z, p < 6 ∧ z < n ∧ σ 241 u = nI p ∧ σ 265 (6 * s + p) = nI z ∧ τ 265 (6 * s + p) = nI z) → tin τ s t = tin σ s t := by
  have hn := h.1
  have hV := mTb_num h
  have hV' : ∀ t, t < n → t < 100000 ∧ tOk (fun u => u < n) (mAG σ n) (τ 233) (τ 234) (τ 235) t := fun t ht => by
    obtain ⟨e1, e2, e3⟩ := hF2 t ht
    exact ⟨(hV t ht).1, tOk_mono (fun _ _ q => q) (fun _ _ q => q) e1 e2 e3 (hV t ht).2⟩
  intro t
  induction t using Nat.strongRecOn with
  | _ t ih =>
    intro ht hst
    obtain ⟨e1, e2, e3⟩ := hF2 t ht
    rcases (hV t ht).2 with ⟨k, h3, hk, -, -⟩ | ⟨k, x, y, h3, hk, hx, hy, h4, h5, h6, h7⟩ | ⟨k, x, h3, hk, hx, hy, h4, h6⟩
    · unfold tin
      rw [tA_0 (e1.trans hk) h3, tA_0 hk h3, e1]
      by_cases hk3 : σ 233 t = nI 3
      · rw [if_pos hk3, if_pos hk3]
        have hu : t ∈ tvs (σ 233) (σ 234) (σ 235) t := by
          unfold tvs
          rw [tA_0 hk h3, if_pos hk3]
          exact List.mem_singleton.mpr rfl
        obtain ⟨p, z, hp, hz, a1, a2, a3⟩ := hst t hu
        have ev : mVl τ s t = z := by
          unfold mVl
          rw [ho, a1, fN_nI (by omega), a3, fN_nI (by omega)]
        have ev' : mVl σ s t = z := by
          unfold mVl
          rw [a1, fN_nI (by omega), a2, fN_nI (by omega)]
        rw [ev, ev']
        exact tA_congr hV (fun w hw => ⟨(hF2 w hw).1, (hF2 w hw).2.1, (hF2 w hw).2.2, rfl⟩) z hz
      · rw [if_neg hk3, if_neg hk3]
    · have evs : tvs (σ 233) (σ 234) (σ 235) t = tvs (σ 233) (σ 234) (σ 235) x ++ tvs (σ 233) (σ 234) (σ 235) y := tA_2 hV hk hx hy (by omega) (by omega) h4 h5 h6 h7
      have e4 : tin τ s t = vnd k (tin τ s x) (some (tin τ s y)) := tA_2 hV' (e1.trans hk) (e2.trans hx) (e3.trans hy) (by omega) (by omega) h4 h5 h6 h7
      have e5 : tin σ s t = vnd k (tin σ s x) (some (tin σ s y)) := tA_2 hV hk hx hy (by omega) (by omega) h4 h5 h6 h7
      rw [e4, e5, ih x h4 h6 (fun u hu => hst u (by rw [evs]; exact List.mem_append_left _ hu)), ih y h5 h7 (fun u hu => hst u (by rw [evs]; exact List.mem_append_right _ hu))]
    · have evs : tvs (σ 233) (σ 234) (σ 235) t = tvs (σ 233) (σ 234) (σ 235) x ++ [] := tA_1 hV hk hx hy (by omega) (by omega) h4 h6
      have e4 : tin τ s t = vnd k (tin τ s x) none := tA_1 hV' (e1.trans hk) (e2.trans hx) (e3.trans hy) (by omega) (by omega) h4 h6
      have e5 : tin σ s t = vnd k (tin σ s x) none := tA_1 hV hk hx hy (by omega) (by omega) h4 h6
      rw [e4, e5, ih x h4 h6 (fun u hu => hst u (by rw [evs]; exact List.mem_append_left _ hu))]
theorem mA_cg {σ τ : kS} (hk : ∀ u, u < 200 → τ 233 u = σ 233 u ∧ τ 234 u = σ 234 u ∧ τ 235 u = σ 235 u) : mA τ = mA σ := by
  funext t
  unfold mA
  by_cases q : t < 200
  · rw [(hk t q).1]
  · exact propext ⟨fun z => absurd z.1 q, fun z => absurd z.1 q⟩
theorem trKn_cg {σ τ : kS} {n b : Nat} {kl : List Nat} (h : mTb σ n b) (hK : mKn σ n kl) (hk : ∀ u, u < 200 → τ 233 u = σ 233 u ∧ τ 234 u = σ 234 u ∧ τ 235 u = σ 235 u) : trKn τ kl = trKn σ kl := by
  have hn := h.1
  unfold trKn
  refine fold_congr kl [] (fun t ht a => ?_)
  have : tvl (τ 233) (τ 234) (τ 235) t = tvl (σ 233) (σ 234) (σ 235) t := tA_congr (mTb_num h) (fun w hw => ⟨(hk w (by omega)).1, (hk w (by omega)).2.1, (hk w (by omega)).2.2, rfl⟩) t (hK.2.2.2 t ht).1
  rw [this]
theorem trSe_cg {σ τ : kS} {n b R S s : Nat} (h : mTb σ n b) (hR : mRo σ n R) (hS : mSv σ n R S) (hk : ∀ u, u < 200 → τ 233 u = σ 233 u ∧ τ 234 u = σ 234 u ∧ τ 235 u = σ 235 u) (e : eqC σ τ sxC) (hv : ∀ k, k < 6 → σ 265 (6 * s + k) ≠ -6 → τ 265 (6 * s + k) = σ 265 (6 * s + k)) (hs : s < S) (tr : trT) : ∀ c, c ≤ fN (σ 264 s) → trSe τ s tr c = trSe σ s tr c := by
  have hn := h.1
  have hR4 := hR.1
  intro c
  obtain ⟨r, r1, r2, r3, r4, -, r6, -⟩ := hS.2 s hs
  induction c with
  | zero => intro _; rfl
  | succ c ih =>
    intro hc
    have hst := r6 c (by omega)
    obtain ⟨t, t1, t2, -⟩ := hR.2.2.2.2.2 r c r1 (by omega)
    have hme : mEv σ s c = 6 * r + c := by
      unfold mEv
      rw [r2, fN_nI (by omega)]
    have hme2 : mEv τ s c = 6 * r + c := by
      unfold mEv
      rw [e 255 (by decide), r2, fN_nI (by omega)]
    rw [trSe, trSe, ih (by omega), hme2, hme, e 249 (by decide), e 248 (by decide)]
    rw [t2, fN_nI (by omega)] at hst ⊢
    rw [tin_cg h (fun u hu => hk u (by omega)) (e 241 (by decide)) t t1 (fun u hu => ?_)]
    obtain ⟨p, z, p1, p2, p3, p4, -⟩ := hst u hu
    refine ⟨p, z, p1, p2, p3, p4, ?_⟩
    rw [hv p p1 (by rw [p4]; exact fun q => absurd (show nI z < 0 by rw [q]; decide) (nI_pos (by omega)))]
    exact p4
theorem trSs_cg {σ τ : kS} {n b R S : Nat} (h : mTb σ n b) (hR : mRo σ n R) (hS : mSv σ n R S) (hk : ∀ u, u < 200 → τ 233 u = σ 233 u ∧ τ 234 u = σ 234 u ∧ τ 235 u = σ 235 u) (e : eqC σ τ sxC) (hd : ∀ s, s < S → τ 264 s = σ 264 s ∨ (τ 264 s = σ 264 s + 1 ∧ σ 249 (mEv σ s (fN (σ 264 s))) = 0)) (hv : ∀ s k, s < S → k < 6 → σ 265 (6 * s + k) ≠ -6 → τ 265 (6 * s + k) = σ 265 (6 * s + k)) (tr : trT) : ∀ s, s ≤ S → trSs τ tr s = trSs σ tr s := by
  intro s
  induction s with
  | zero => intro _; rfl
  | succ s ih =>
    intro hs
    have hs' : s < S := hs
    have hR4 := hR.1
    have h2 := fun tr => trSe_cg h hR hS hk e (hv s · hs') hs' tr
    obtain ⟨r, r1, r2, r3, r4, -⟩ := hS.2 s hs'
    obtain ⟨-, ev, ev6, ev2⟩ := hR.2.2.1 r r1
    rw [ev2, fN_nI (by omega)] at r4
    have hd := hd s hs'
    have hmev : mEv τ s (fN (σ 264 s)) = mEv σ s (fN (σ 264 s)) := by
      unfold mEv
      rw [e 255 (by decide)]
    have es := e 249 (by decide)
    generalize fN (σ 264 s) = dn at *
    have e1 : trSs τ tr (s + 1) = trSe τ s (trSs σ tr s) (fN (τ 264 s)) := by
      rw [trSs, ih (by omega)]
    have e2 : trSs σ tr (s + 1) = trSe σ s (trSs σ tr s) dn := by
      rw [trSs, r3, fN_nI (by omega)]
    rw [e1, e2]
    rcases hd with q | ⟨q1, q2⟩
    · rw [q, r3, fN_nI (by omega)]
      exact h2 _ _ (Nat.le_refl _)
    · have e3 : fN (τ 264 s) = dn + 1 := by
        rw [q1, r3, nI_1]
        exact fN_nI (by omega)
      rw [e3, trSe, hmev, es, cit_F (fun z => z q2)]
      exact h2 _ _ (Nat.le_refl _)
theorem trSt_cg {σ τ : kS} {n b R S : Nat} {kl : List Nat} (h : mTb σ n b) (hR : mRo σ n R) (hK : mKn σ n kl) (hS : mSv σ n R S) (hk : ∀ u, u < 200 → τ 233 u = σ 233 u ∧ τ 234 u = σ 234 u ∧ τ 235 u = σ 235 u) (e : eqC σ τ sxC) (hd : ∀ s, s < S → τ 264 s = σ 264 s ∨ (τ 264 s = σ 264 s + 1 ∧ σ 249 (mEv σ s (fN (σ 264 s))) = 0)) (hv : ∀ s k, s < S → k < 6 → σ 265 (6 * s + k) ≠ -6 → τ 265 (6 * s + k) = σ 265 (6 * s + k)) : trSt τ kl S = trSt σ kl S := by
  unfold trSt
  rw [trKn_cg h hK hk, trSs_cg h hR hS hk e hd hv _ S (Nat.le_refl _), mA_cg hk, e 238 (by decide)]
theorem mBt_cg {σ τ : kS} {tr : trT} {n b R S C c : Nat} (h : mTb σ n b) (hR : mRo σ n R) (hC : mCl σ R C) (hc : c < C) (hS : mSv σ n R S) (hk : ∀ u, u < 200 → τ 233 u = σ 233 u ∧ τ 234 u = σ 234 u ∧ τ 235 u = σ 235 u) (e : eqC σ τ sxC) (hd : ∀ s, s < S → τ 264 s = σ 264 s) (hv : ∀ s k, s < S → k < 6 → τ 265 (6 * s + k) = σ 265 (6 * s + k)) : mBt τ tr c S ↔ mBt σ tr c S := by
  have hn := h.1
  have hR4 := hR.1
  obtain ⟨bb, aa, nn, j, x1, x2, x3, x4, x5, x6, x7, x8, x9, x10⟩ := hC.2.2 c hc
  have hv6 : ∀ r, r < R → fN (σ 244 r) ≤ 6 := fun r hr => by
    obtain ⟨⟨v, h1, h2⟩, -⟩ := hR.2.2.1 r hr
    rw [h2, fN_nI (by omega)]
    exact h1
  have hmH : ∀ s, s < S → (mHo τ s ↔ mHo σ s) := fun s hs => by
    obtain ⟨r, r1, r2, -⟩ := hS.2 s hs
    have := hv6 r r1
    unfold mHo
    rw [e 244 (by decide), e 255 (by decide), e 246 (by decide), e 238 (by decide), r2, fN_nI (by omega)]
    exact forall_congr' (fun k => forall_congr' (fun hk => by rw [hv s k hs (by omega)]))
  have htv : ∀ t, t < n → tvl (τ 233) (τ 234) (τ 235) t = tvl (σ 233) (σ 234) (σ 235) t := fun t ht => tA_congr (mTb_num h) (fun w hw => ⟨(hk w (by omega)).1, (hk w (by omega)).2.1, (hk w (by omega)).2.2, rfl⟩) t ht
  have htM : ∀ g, trM τ tr g = trM σ tr g := fun g => by
    unfold trM
    rw [mA_cg hk, e 238 (by decide)]
  unfold mBt
  rw [e 257 (by decide), e 258 (by decide), e 259 (by decide), e 255 (by decide)]
  refine or_congr (and_congr_right (fun hsec => exists_congr (fun s => and_congr_right (fun hs => and_congr_right (fun _ => ?_))))) (and_congr_right (fun hsec => not_congr (cPn_congr (fun s hs => ?_) (fun s p hs hp hps => ?_))))
  · have ha6 : aa < 6 := by
      have := x4 hsec
      have := hv6 bb x1
      omega
    have hfa : fN (σ 259 c) = aa := by rw [x3]; exact fN_nI (by omega)
    rw [hfa, hv s aa hs ha6, hmH s hs]
    rcases mSv_val hS hs ha6 with q | ⟨z, z1, z2, -⟩
    · rw [q]
      exact ⟨fun w => absurd (by decide) w.1, fun w => absurd (by decide) w.1⟩
    · rw [z2, fN_nI (by omega), htv z z1, htM]
  · unfold mWt
    rw [hmH s hs, e 255 (by decide), e 258 (by decide), e 247 (by decide), hd s hs]
  · have haR := x5 hsec
    unfold mFit
    rw [e 255 (by decide), e 259 (by decide), e 260 (by decide), e 261 (by decide), hd p hp]
    refine and_congr_right (fun _ => ?_)
    refine forall_congr' (fun k => forall_congr' (fun hk => ?_))
    rw [x9, fN_nI (by omega)] at hk
    obtain ⟨bx, ay, q1, q2, q3, q4, q5⟩ := x10 k hk
    have h6b := hv6 bb x1
    have h6a := hv6 aa haR
    unfold mJn
    rw [e 262 (by decide), e 263 (by decide), q4, q5, fN_nI (by omega), fN_nI (by omega), hv s bx hs (by omega), hv p ay hp (by omega)]
