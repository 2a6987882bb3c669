/-! alike: components stay with their cells -/
def eqC (σ ω : kS) (l : List Nat) : Prop := ∀ c ∈ l, ω c = σ c
def refR : List Nat := [244, 245, 246, 247, 248, 249, 250, 233, 234, 235, 240, 241]
def refS : List Nat := [255, 256, 238, 244, 245, 246, 247, 248, 249, 250]
def refC : List Nat := [257, 258, 259, 260, 261, 262, 263]
def refU : List Nat := [274, 264, 265, 233, 234, 235, 241, 249, 248, 255, 238]
def refF : List Nat := [288, 289, 285, 255]
theorem eqC_R {σ ω : kS} {r n : Nat} (h : eqC σ ω refR) (hc : ∀ c, 23 + 35 * r ≤ c → c < 58 + 35 * r → ω c = σ c) : fR σ ω r n := by
  refine ⟨?_, fun u _ => ?_, hc⟩
  · unfold roO
    rw [h 244 (by decide), h 245 (by decide), h 246 (by decide), h 247 (by decide), h 248 (by decide), h 249 (by decide), h 250 (by decide)]
    exact ⟨rfl, rfl, rfl, fun k _ => ⟨rfl, rfl, rfl, rfl⟩⟩
  · rw [h 233 (by decide), h 234 (by decide), h 235 (by decide), h 240 (by decide), h 241 (by decide)]
    exact ⟨rfl, rfl, rfl, rfl, rfl⟩
theorem aR_c {σ ω : kS} {n b R : Nat} (h : mTb σ n b) (hR : mRo σ n R) (hc : ∀ c, 23 ≤ c → c < 163 → ω c = σ c) (hr : eqC σ ω refR) (hA : aR σ R) : aR ω R := fun r hr' => fR_aR1 h hR (eqC_R hr (fun c c1 c2 => hc c (by omega) (by have := hR.1; omega))) hr' (hA r hr')
theorem aS_c {σ ω : kS} {n R S : Nat} (hn : n ≤ 200) (hR : mRo σ n R) (hS : mSe σ n R S) (e1 : ω 15 = σ 15) (e2 : ω 16 = σ 16) (e3 : ω 17 = σ 17) (h : eqC σ ω refS) (hA : aS σ S) : aS ω S := fun s hs => by
  refine fS_aS1 hn hR hS hs ⟨by rw [h 255 (by decide)], fun k _ => by rw [h 256 (by decide)], ?_, fun u _ => by rw [h 238 (by decide)], by rw [e1], by rw [e2], fun k _ => by rw [e3]⟩ (hA s hs)
  unfold roO
  rw [h 244 (by decide), h 245 (by decide), h 246 (by decide), h 247 (by decide), h 248 (by decide), h 249 (by decide), h 250 (by decide)]
  exact ⟨rfl, rfl, rfl, fun k _ => ⟨rfl, rfl, rfl, rfl⟩⟩
theorem aC_c {σ ω : kS} {R C : Nat} (hC : mCl σ R C) (hc : ∀ c, 163 ≤ c → c < 181 → ω c = σ c) (h : eqC σ ω refC) (hA : aC σ C) : aC ω C := fun c hc' => by
  have := hC.1
  refine fC_aC1 hC hc' ⟨by rw [h 257 (by decide)], by rw [h 258 (by decide)], by rw [h 259 (by decide)], by rw [h 260 (by decide)], by rw [h 261 (by decide)], fun i _ => ⟨by rw [h 262 (by decide)], by rw [h 263 (by decide)]⟩, fun j hj => hc _ (by omega) (by omega)⟩ (hA c hc')
theorem aU_c {σ ω : kS} {n S : Nat} {kl : List Nat} (eT : ∀ c, 1 ≤ c → c < 13 → ω c = σ c) (eK : ∀ c, 181 ≤ c → c < 195 → ω c = σ c) (eO : ω 17 = σ 17) (h : eqC σ ω refU) (e1 : ω 232 52 = σ 232 52) (e2 : ω 232 55 = σ 232 55) (hA : aU σ n S kl) : aU ω n S kl := by
  unfold aU at hA ⊢
  rw [eK 181 (by decide) (by decide), eO, eK 183 (by decide) (by decide), eK 182 (by decide) (by decide), e1, e2, h 274 (by decide), h 264 (by decide), h 265 (by decide)]
  refine ⟨hA.1, fun q => ?_⟩
  obtain ⟨g1, g2, g3, g5, g4⟩ := hA.2 q
  refine ⟨g1, g2, g3, g5, fun hg => ?_⟩
  obtain ⟨ds, d1, d2, d4, d5, d3⟩ := g4 hg
  refine ⟨ds, d1, d2, d4, d5, ?_⟩
  rw [trRun_eq ⟨h 233 (by decide), h 234 (by decide), h 235 (by decide), h 265 (by decide), h 241 (by decide), h 249 (by decide), h 248 (by decide), h 255 (by decide), h 238 (by decide)⟩]
  exact kOk_eq eT (fun c c1 c2 => eK c (by omega) (by omega)) (fun t _ => by rw [h 233 (by decide)]) (h _ (by decide)) d3
theorem aF_c {σ ω : kS} {n b R S : Nat} (h : mTb σ n b) (hR : mRo σ n R) (hSe : mSe σ n R S) (hc : ∀ c, 23 ≤ c → c < 163 → ω c = σ c) (hr : eqC σ ω refR) (e1 : ω 196 = σ 196) (e2 : ω 195 = σ 195) (e3 : ω 197 = σ 197) (e4 : ω 203 = σ 203) (eO : ω 232 69 = σ 232 69 ∧ ω 232 70 = σ 232 70 ∧ ω 232 71 = σ 232 71 ∧ ω 232 72 = σ 232 72) (hf : eqC σ ω refF) (hA : aF σ n R S) : aF ω n R S := by
  refine aF_fr h hR hSe e1 e2 e3 e4 eO (hf _ (by decide)) (hf _ (by decide)) (hf _ (by decide)) (fun s _ => by rw [hf 255 (by decide)]) (fun s hs => ?_) hA
  obtain ⟨r, r1, r2, -⟩ := hSe.2.2 s hs
  have := hR.1
  have efr : fN (σ 255 s) = r := by rw [r2, fN_nI (by omega)]
  rw [efr]
  exact eqC_R hr (fun c c1 c2 => hc c (by omega) (by omega))
theorem aT_c {σ ω : kS} {n : Nat} (eT : ∀ c, 1 ≤ c → c < 13 → ω c = σ c) (h : eqC σ ω [233, 234, 235, 236, 237, 238, 239, 240, 241]) (hA : aT σ n) : aT ω n := by
  unfold aT cCn cpt aT1 at hA ⊢
  rw [eT 2 (by decide) (by decide), eT 3 (by decide) (by decide), eT 4 (by decide) (by decide), eT 5 (by decide) (by decide), eT 8 (by decide) (by decide), eT 9 (by decide) (by decide), eT 10 (by decide) (by decide), eT 11 (by decide) (by decide), eT 12 (by decide) (by decide), eT 7 (by decide) (by decide), eT 6 (by decide) (by decide), h 233 (by decide), h 234 (by decide), h 235 (by decide), h 236 (by decide), h 237 (by decide), h 238 (by decide), h 239 (by decide), h 240 (by decide), h 241 (by decide)]
  exact hA
/-- nothing is left of what was found -/
theorem aF_none {ω : kS} {n R S : Nat} (e1 : ω 196 5 = 0) (e2 : ω 195 10 = 0) (e3 : ω 195 11 = 0) (e4 : ω 195 9 = -1) (f1 : ω 232 69 = 0) (f2 : ω 232 70 = 0) (f3 : ω 232 71 = 0) (f4 : ω 232 72 = -6) : aF ω n R S := by
  refine ⟨e1.trans f1.symm, e2.trans f2.symm, e3.trans f3.symm, ?_, ⟨0, by decide, f1⟩, fun q => absurd e4 q⟩
  rw [e4, f4]
  rfl
/-- no RUN -/
theorem aU_none {ω : kS} {n S : Nat} {kl : List Nat} (e1 : ω 181 8 = 0) (e2 : ω 232 52 = 0) : aU ω n S kl := ⟨⟨fun q => absurd e1 q, fun q => absurd e2 q⟩, fun q => absurd e2 q⟩
