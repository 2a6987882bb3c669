section
/-! alike: components stay with their cells -/
def eqC (σ ω : kS) (l : List Nat) : Prop := ∀ c ∈ l, ω c = σ c
def refR : List Nat := [244, 245, 246, 247, 248, 249, 250, 233, 234, 235, 240, 241]
def refS : List Nat := [255, 256, 238, 244, 245, 246, 247, 248, 249, 250]
def refC : List Nat := [257, 258, 259, 260, 261, 262, 263]
def refU : List Nat := [274, 264, 265, 233, 234, 235, 241, 249, 248, 255, 238]
def refF : List Nat := [288, 289, 285, 255]
theorem eqC_R {σ ω : kS} {r n : Nat} (h : eqC σ ω refR) (hc : ∀ c, 23 + 35 * r ≤ c → c < 58 + 35 * r → ω c = σ c) : fR σ ω r n := by
  refine ⟨?_, fun u _ => ?_, hc⟩
  · unfold roO
    rw [h 244 (by decide), h 245 (by decide), h 246 (by decide), h 247 (by decide), h 248 (by decide), h 249 (by decide), h 250 (by decide)]
    exact ⟨rfl, rfl, rfl, fun k _ => ⟨rfl, rfl, rfl, rfl⟩⟩
  · rw [h 233 (by decide), h 234 (by decide), h 235 (by decide), h 240 (by decide), h 241 (by decide)]
    exact ⟨rfl, rfl, rfl, rfl, rfl⟩
theorem aR_c {σ ω : kS} {n b R : Nat} (h : mTb σ n b) (hR : mRo σ n R) (hc : ∀ c, 23 ≤ c → c < 163 → ω c = σ c) (hr : eqC σ ω refR) (hA : aR σ R) : aR ω R := fun r hr' => fR_aR1 h hR (eqC_R hr (fun c c1 c2 => hc c (by omega) (by have := hR.1; omega))) hr' (hA r hr')
theorem aS_c {σ ω : kS} {n R S : Nat} (hn : n ≤ 200) (hR : mRo σ n R) (hS : mSe σ n R S) (e1 : ω 15 = σ 15) (e2 : ω 16 = σ 16) (e3 : ω 17 = σ 17) (h : eqC σ ω refS) (hA : aS σ S) : aS ω S := fun s hs => by
  refine fS_aS1 hn hR hS hs ⟨by rw [h 255 (by decide)], fun k _ => by rw [h 256 (by decide)], ?_, fun u _ => by rw [h 238 (by decide)], by rw [e1], by rw [e2], fun k _ => by rw [e3]⟩ (hA s hs)
  unfold roO
  rw [h 244 (by decide), h 245 (by decide), h 246 (by decide), h 247 (by decide), h 248 (by decide), h 249 (by decide), h 250 (by decide)]
  exact ⟨rfl, rfl, rfl, fun k _ => ⟨rfl, rfl, rfl, rfl⟩⟩
theorem aC_c {σ ω : kS} {R C : Nat} (hC : mCl σ R C) (hc : ∀ c, 163 ≤ c → c < 181 → ω c = σ c) (h : eqC σ ω refC) (hA : aC σ C) : aC ω C := fun c hc' => by
  have := hC.1
  refine fC_aC1 hC hc' ⟨by rw [h 257 (by decide)], by rw [h 258 (by decide)], by rw [h 259 (by decide)], by rw [h 260 (by decide)], by rw [h 261 (by decide)], fun i _ => ⟨by rw [h 262 (by decide)], by rw [h 263 (by decide)]⟩, fun j hj => hc _ (by omega) (by omega)⟩ (hA c hc')
theorem aU_c {σ ω : kS} {n S : Nat} {kl : List Nat} (eT : ∀ c, 1 ≤ c → c < 13 → ω c = σ c) (eK : ∀ c, 181 ≤ c → c < 195 → ω c = σ c) (eO : ω 17 = σ 17) (h : eqC σ ω refU) (e1 : ω 232 52 = σ 232 52) (e2 : ω 232 55 = σ 232 55) (hA : aU σ n S kl) : aU ω n S kl := by
  unfold aU at hA ⊢
  rw [eK 181 (by decide) (by decide), eO, eK 183 (by decide) (by decide), eK 182 (by decide) (by decide), e1, e2, h 274 (by decide), h 264 (by decide), h 265 (by decide)]
  refine ⟨hA.1, fun q => ?_⟩
  obtain ⟨g1, g2, g3, g5, g4⟩ := hA.2 q
  refine ⟨g1, g2, g3, g5, fun hg => ?_⟩
  obtain ⟨ds, d1, d2, d4, d5, d3⟩ := g4 hg
  refine ⟨ds, d1, d2, d4, d5, ?_⟩
  rw [trRun_eq ⟨h 233 (by decide), h 234 (by decide), h 235 (by decide), h 265 (by decide), h 241 (by decide), h 249 (by decide), h 248 (by decide), h 255 (by decide), h 238 (by decide)⟩]
  exact kOk_eq eT (fun c c1 c2 => eK c (by omega) (by omega)) (fun t _ => by rw [h 233 (by decide)]) (h _ (by decide)) d3
theorem aF_c {σ ω : kS} {n b R S : Nat} (h : mTb σ n b) (hR : mRo σ n R) (hSe : mSe σ n R S) (hc : ∀ c, 23 ≤ c → c < 163 → ω c = σ c) (hr : eqC σ ω refR) (e1 : ω 196 = σ 196) (e2 : ω 195 = σ 195) (e3 : ω 197 = σ 197) (e4 : ω 203 = σ 203) (eO : ω 232 69 = σ 232 69 ∧ ω 232 70 = σ 232 70 ∧ ω 232 71 = σ 232 71 ∧ ω 232 72 = σ 232 72) (hf : eqC σ ω refF) (hA : aF σ n R S) : aF ω n R S := by
  refine aF_fr h hR hSe e1 e2 e3 e4 eO (hf _ (by decide)) (hf _ (by decide)) (hf _ (by decide)) (fun s _ => by rw [hf 255 (by decide)]) (fun s hs => ?_) hA
  obtain ⟨r, r1, r2, -⟩ := hSe.2.2 s hs
  have := hR.1
  have efr : fN (σ 255 s) = r := by rw [r2, fN_nI (by omega)]
  rw [efr]
  exact eqC_R hr (fun c c1 c2 => hc c (by omega) (by omega))
theorem aT_c {σ ω : kS} {n : Nat} (eT : ∀ c, 1 ≤ c → c < 13 → ω c = σ c) (h : eqC σ ω [233, 234, 235, 236, 237, 238, 239, 240, 241]) (hA : aT σ n) : aT ω n := by
  unfold aT cCn cpt aT1 at hA ⊢
  rw [eT 2 (by decide) (by decide), eT 3 (by decide) (by decide), eT 4 (by decide) (by decide), eT 5 (by decide) (by decide), eT 8 (by decide) (by decide), eT 9 (by decide) (by decide), eT 10 (by decide) (by decide), eT 11 (by decide) (by decide), eT 12 (by decide) (by decide), eT 7 (by decide) (by decide), eT 6 (by decide) (by decide), h 233 (by decide), h 234 (by decide), h 235 (by decide), h 236 (by decide), h 237 (by decide), h 238 (by decide), h 239 (by decide), h 240 (by decide), h 241 (by decide)]
  exact hA
/-- nothing is left of what was found -/
theorem aF_none {ω : kS} {n R S : Nat} (e1 : ω 196 5 = 0) (e2 : ω 195 10 = 0) (e3 : ω 195 11 = 0) (e4 : ω 195 9 = -1) (f1 : ω 232 69 = 0) (f2 : ω 232 70 = 0) (f3 : ω 232 71 = 0) (f4 : ω 232 72 = -6) : aF ω n R S := by
  refine ⟨e1.trans f1.symm, e2.trans f2.symm, e3.trans f3.symm, ?_, ⟨0, by decide, f1⟩, fun q => absurd e4 q⟩
  rw [e4, f4]
  rfl
/-- no RUN -/
theorem aU_none {ω : kS} {n S : Nat} {kl : List Nat} (e1 : ω 181 8 = 0) (e2 : ω 232 52 = 0) : aU ω n S kl := ⟨⟨fun q => absurd e1 q, fun q => absurd e2 q⟩, fun q => absurd e2 q⟩
end
section
/-! alike: CLAIMS -/
set_option maxRecDepth 100000 in
set_option maxHeartbeats 4000000 in
theorem mf_newClaim (L : Nat) (xs : Nat → Int32) (d : Nat) (σ : kS) (n R S C : Nat) (b x y z : Int32) (hb : b = 0 ∨ (b = 1 ∧ ∃ v, v < 6 ∧ z = nI v)) (h : cJ σ n R S C) (hC : C < 6) : kXM kT L xs (d + 1) 15 [.ref 13, .int b, .int x, .int y, .int z] σ (fun r σ' => r = some (.int (nI C)) ∧ cJ σ' n R S (C + 1) ∧ (∀ c, c ≠ 13 → c ≠ 163 + 3 * C → σ' c = σ c) ∧ (∀ j, j ≠ 8 → σ' 13 j = σ 13 j) ∧ σ' (163 + 3 * C) = upd (upd (upd (upd (upd (σ (163 + 3 * C)) 0 b) 1 x) 2 y) 3 z) 6 0) := by
  have hc := h.2.2.2.1
  unfold kXM
  iterate 2 (refine kX_one rfl ?_)
  refine kX_top (hc.2.1) ?_
  iterate 1 (refine kX_one rfl ?_)
  repeat refine kX_one rfl ?_
  refine kX_if (fun q => ?_) (fun q => ?_)
  · iterate 4 (refine kX_one rfl ?_)
    refine kX_top (hc.2.1) ?_
    refine kX_aaldN rfl (rfl) (by decide) (by decide) (by decide) (C) (by first | rfl | decide) (hC) (cl_at hC) ?_
    iterate 3 (refine kX_one rfl ?_)
    refine kX_putN rfl rfl (kT_cl hC) rfl (by rcases hb with rfl | ⟨rfl, -⟩ <;> rfl) rfl ?_
    iterate 2 (refine kX_one rfl ?_)
    refine kX_putN rfl rfl (kT_cl hC) rfl (rfl) rfl ?_
    iterate 2 (refine kX_one rfl ?_)
    refine kX_putN rfl rfl (kT_cl hC) rfl (rfl) rfl ?_
    iterate 2 (refine kX_one rfl ?_)
    refine kX_putN rfl rfl (kT_cl hC) rfl (rfl) rfl ?_
    iterate 2 (refine kX_one rfl ?_)
    refine kX_putN rfl rfl (kT_cl hC) rfl (rfl) rfl ?_
    refine kX_st (va_up σ (163 + 3 * C) (upd (upd (upd (upd (upd (σ (163 + 3 * C)) 0 b) 1 x) 2 y) 3 z) 6 0)) ?_ ?_
    · rw [kup_up, kup_up, kup_up, kup_up]
      simp only [up_eq]
      rfl
    have h13 : va_up σ (163 + 3 * C) (upd (upd (upd (upd (upd (σ (163 + 3 * C)) 0 b) 1 x) 2 y) 3 z) 6 0) 13 = σ 13 := up_ne (by omega)
    have hC0 : va_up σ (163 + 3 * C) (upd (upd (upd (upd (upd (σ (163 + 3 * C)) 0 b) 1 x) 2 y) 3 z) 6 0) (163 + 3 * C) = upd (upd (upd (upd (upd (σ (163 + 3 * C)) 0 b) 1 x) 2 y) 3 z) 6 0 := up_eq
    have hoth : ∀ c, c ≠ 163 + 3 * C → va_up σ (163 + 3 * C) (upd (upd (upd (upd (upd (σ (163 + 3 * C)) 0 b) 1 x) 2 y) 3 z) 6 0) c = σ c := fun c hc => up_ne hc
    generalize va_up σ (163 + 3 * C) (upd (upd (upd (upd (upd (σ (163 + 3 * C)) 0 b) 1 x) 2 y) 3 z) 6 0) = ρ at *
    iterate 3 (refine kX_one rfl ?_)
    refine kX_top (y := nI C) (by rw [h13]; exact hc.2.1) ?_
    iterate 3 (refine kX_one rfl ?_)
    refine kX_st (va_up ρ 13 (upd (ρ 13) 8 (nI (C + 1)))) (by rw [← nI_1]; rfl) ?_
    repeat refine kX_one rfl ?_
    refine kX_ret (i := .ireturn) (len := 1) rfl (Or.inr rfl) rfl ⟨?_, cJ_cl h (fun c c1 c2 => ?_) (fun j hj => ?_) ⟨by omega, rfl, fun c hc' => ?_⟩, fun c c1 c2 => by rw [up_ne c1, hoth c c2], fun j hj => ?_, by rw [up_ne (by omega), hC0]⟩
    · show some (Value.int (nI (C + 1) - 1)) = _
      rw [← nI_1, Int32.add_sub_cancel]
    · rw [up_ne c1, hoth c (by omega)]
    · show upd (ρ 13) 8 (nI (C + 1)) j = _
      rw [pk_un hj, h13]
    · rw [up_ne (by omega), up_ne (by omega), up_ne (by omega)]
      by_cases e : c = C
      · subst e
        rw [hC0]
        refine ⟨fun hs => ?_, 0, by omega, rfl, fun i hi => absurd hi (Nat.not_lt_zero i)⟩
        rcases hb with rfl | ⟨rfl, v, v1, v2⟩
        · exact absurd rfl hs
        · exact ⟨v, v1, v2⟩
      · rw [hoth _ (by omega), hoth _ (by omega), hoth _ (by omega)]
        exact hc.2.2 c (by omega)
    · show upd (ρ 13) 8 (nI (C + 1)) j = _
      rw [pk_un hj, h13]
  · have q := qltF q C 6
    omega
/-- a CLAIM more on both sides -/
theorem bJ_cl {σ τ : kS} {n b R S C m p a nn : Nat} {kl : List Nat} {y : Int32} {x0 y0 z0 : Int32} (h : aJ σ n b R S C kl m) (hC : C < 6) (hJ : cJ τ n R S (C + 1)) (e : ∀ c, c ≠ 13 → c ≠ 163 + 3 * C → τ c = σ c) (e13 : ∀ j, j ≠ 8 → τ 13 j = σ 13 j) (eC : τ (163 + 3 * C) = upd (upd (upd (upd (upd (σ (163 + 3 * C)) 0 y) 1 x0) 2 y0) 3 z0) 6 0) (hI : mI (clS τ C y (nI p) (nI a) (nI nn)) n b R S (C + 1) kl) (f1 : x0 = nI p) (f2 : y ≠ 0 → z0 = nI a) (f3 : y = 0 → y0 = nI a ∧ z0 = nI nn) : bJ m (clS τ C y (nI p) (nI a) (nI nn)) := by
  obtain ⟨i, j, t, r, s, c, k, u, f, mm⟩ := h
  have lo : ∀ c, c < 232 → clS τ C y (nI p) (nI a) (nI nn) c = τ c := fun c hc => by
    simp only [clS, va_up]
    repeat rw [if_neg (by omega)]
  have hT : ∀ c, 1 ≤ c → c < 13 → clS τ C y (nI p) (nI a) (nI nn) c = σ c := fun c c1 c2 => (lo c (by omega)).trans (e c (by omega) (by omega))
  have hB : ∀ c, 13 < c → c < 163 → clS τ C y (nI p) (nI a) (nI nn) c = σ c := fun c c1 c2 => (lo c (by omega)).trans (e c (by omega) (by omega))
  have hH : ∀ c, 181 ≤ c → c < 232 → clS τ C y (nI p) (nI a) (nI nn) c = σ c := fun c c1 c2 => (lo c (by omega)).trans (e c (by omega) (by omega))
  have hr : ∀ c, 232 < c → c ≠ 257 → c ≠ 258 → c ≠ 259 → c ≠ 260 → c ≠ 261 → clS τ C y (nI p) (nI a) (nI nn) c = σ c := fun c c1 c2 c3 c4 c5 c6 => by
    simp only [clS, va_up]
    rw [if_neg (by omega), if_neg c6, if_neg c5, if_neg c4, if_neg c3, if_neg c2]
    exact e c (by omega) (by omega)
  have hq : ∀ l : List Nat, l.all (fun c => decide (232 < c ∧ c ≠ 257 ∧ c ≠ 258 ∧ c ≠ 259 ∧ c ≠ 260 ∧ c ≠ 261)) = true → eqC σ (clS τ C y (nI p) (nI a) (nI nn)) l := fun l hl c hc => by
    have := of_decide_eq_true (List.all_eq_true.mp hl c hc)
    exact hr c this.1 this.2.1 this.2.2.1 this.2.2.2.1 this.2.2.2.2.1 this.2.2.2.2.2
  have h232 : ∀ j, j ≠ 30 → clS τ C y (nI p) (nI a) (nI nn) 232 j = σ 232 j := fun j hj => by
    show upd (τ 232) 30 (nI (C + 1)) j = _
    rw [pk_un hj, e 232 (by decide) (by omega)]
  refine ⟨n, b, R, S, C + 1, kl, hI, cJ_low lo hJ, aT_c hT (hq _ (by decide)) t, aR_c i.1 i.2.1 (fun c c1 c2 => hB c (by omega) c2) (hq _ (by decide)) r, aS_c i.1.1 i.2.1 i.2.2.1 (hB _ (by decide) (by decide)) (hB _ (by decide) (by decide)) (hB _ (by decide) (by decide)) (hq _ (by decide)) s, fun c' hc' => ?_, aK_eq ?_ (hB _ (by decide) (by decide)) k, aU_c hT (fun c c1 c2 => hH c c1 (by omega)) (hB _ (by decide) (by decide)) (hq _ (by decide)) (h232 _ (by decide)) (h232 _ (by decide)) u, aF_c i.1 i.2.1 i.2.2.1 (fun c c1 c2 => hB c (by omega) c2) (hq _ (by decide)) (hH _ (by decide) (by decide)) (hH _ (by decide) (by decide)) (hH _ (by decide) (by decide)) (hH _ (by decide) (by decide)) ⟨h232 _ (by decide), h232 _ (by decide), h232 _ (by decide), h232 _ (by decide)⟩ (hq _ (by decide)) f, aM_eq (Nat.le_refl _) (fun c c1 c2 => hH c (by omega) (by omega)) mm⟩
  · by_cases e0 : c' = C
    · subst e0
      unfold aC1
      rw [lo _ (by omega), eC]
      refine ⟨?_, ?_, fun q => ?_, fun q => ?_, ?_, fun i hi => ?_⟩
      · show y ≠ 0 ↔ upd (τ 257) c' y c' ≠ 0
        rw [pk_us]
      · show x0 = upd (τ 258) c' (nI p) c'
        rw [pk_us, f1]
      · have q : upd (τ 257) c' y c' ≠ 0 := q
        rw [pk_us] at q
        show z0 = upd (τ 259) c' (nI a) c'
        rw [pk_us]
        exact f2 q
      · have q : upd (τ 257) c' y c' = 0 := q
        rw [pk_us] at q
        show y0 = upd (τ 259) c' (nI a) c' ∧ z0 = upd (τ 260) c' (nI nn) c'
        rw [pk_us, pk_us]
        exact f3 q
      · show (0 : Int32) = upd (τ 261) c' 0 c'
        rw [pk_us]
      · have hi : i < fN (upd (τ 261) c' 0 c') := hi
        rw [pk_us] at hi
        exact absurd hi (Nat.not_lt_zero i)
    · have hlt : c' < C := by omega
      have ec : ∀ c, 232 ≤ c → τ c = σ c := fun c hc => e c (by omega) (by omega)
      refine fC_aC1 i.2.2.2.2.1 hlt ⟨?_, ?_, ?_, ?_, ?_, fun i _ => ⟨?_, ?_⟩, fun j hj => (lo _ (by omega)).trans (e _ (by omega) (by omega))⟩ (c c' hlt)
      · show upd (τ 257) C y c' = _
        rw [pk_un e0, ec _ (by decide)]
      · show upd (τ 258) C (nI p) c' = _
        rw [pk_un e0, ec _ (by decide)]
      · show upd (τ 259) C (nI a) c' = _
        rw [pk_un e0, ec _ (by decide)]
      · show upd (τ 260) C (nI nn) c' = _
        rw [pk_un e0, ec _ (by decide)]
      · show upd (τ 261) C 0 c' = _
        rw [pk_un e0, ec _ (by decide)]
      · show τ 262 _ = _
        rw [ec _ (by decide)]
      · show τ 263 _ = _
        rw [ec _ (by decide)]
  · rw [lo 13 (by decide)]
    exact e13 _ (by decide)
end
section
/-! alike: secret, agree -/
/-- there is such a VARIABLE -/
def hasV (σ : kS) (R : Nat) (x y : Int32) : Prop := ∃ r v, r < R ∧ x = nI r ∧ v < fN (σ 244 r) ∧ y = nI v
theorem hasV_c {σ : kS} {n R : Nat} {x y : Int32} (hR : mRo σ n R) (hA : aR σ R) : (∃ ro v, ro < R ∧ x = nI ro ∧ v < 6 ∧ y = nI v ∧ v < fN (σ (23 + 35 * ro) 3)) ↔ hasV σ R x y := by
  constructor
  · rintro ⟨r, v, h1, h2, h3, h4, h5⟩
    rw [(hA r h1).1] at h5
    exact ⟨r, v, h1, h2, h5, h4⟩
  · rintro ⟨r, v, h1, h2, h3, h4⟩
    obtain ⟨⟨v0, hv6, hv⟩, -⟩ := hR.2.2.1 r h1
    refine ⟨r, v, h1, h2, ?_, h4, by rw [(hA r h1).1]; exact h3⟩
    rw [hv, fN_nI (by omega)] at h3
    omega
theorem hasV_hi {σ τ : kS} {R : Nat} {x y : Int32} (e : τ 244 = σ 244) : hasV τ R x y ↔ hasV σ R x y := by
  unfold hasV
  rw [e]
set_option maxRecDepth 100000 in
set_option maxHeartbeats 4000000 in
theorem mg_secret (L : Nat) (xs : Nat → Int32) (d : Nat) (σ : kS) (n b R S C : Nat) (kl : List Nat) (x y : Int32) (Q : Option Value → kS → Prop) (h : mI σ n b R S C kl) (hU : ¬ hasV σ R x y → Q (some (.int (-1))) σ) (hF : hasV σ R x y → C = 6 → Q (some (.int (-4))) σ) (hN : ∀ r k, r < R → x = nI r → k < fN (σ 244 r) → y = nI k → C < 6 → Q (some (.int (nI C))) (clS σ C 1 (nI r) (nI k) (nI 0))) : kXM kT L xs (d + 2) 172 [.ref 232, .int x, .int y] σ Q := by
  have h2 := h.2.1
  have hR4 := h2.1
  have h5 := h.2.2.2.2.1
  have hC6 := h5.1
  unfold kXM
  repeat refine kX_one rfl ?_
  refine kX_cal (mr_isRole L xs d σ R x h2.2.1 (by omega)) rfl (Or.inr rfl) rfl rfl rfl (fun r1 σ1 q1 => ?_)
  obtain ⟨rfl, rfl⟩ := q1
  repeat refine kX_one rfl ?_
  refine kX_if (fun q => ?_) (fun q => ?_)
  · have q := qeq q
    repeat refine kX_one rfl ?_
    refine kX_ret (i := .ireturn) (len := 1) rfl (Or.inr rfl) rfl (hU (fun ⟨r, v, r1, r2, _⟩ => isB_ne.mpr ⟨r, r1, r2⟩ q))
  · obtain ⟨r, hr, rfl⟩ := isB_ne.mp (qeqF q)
    obtain ⟨⟨v, hv6, hv⟩, -⟩ := h2.2.2.1 r hr
    have efv : fN (σ 244 r) = v := by rw [hv, fN_nI (by omega)]
    repeat refine kX_one rfl ?_
    refine kX_ialdV rfl rfl (by decide) (r) (by first | rfl | decide) (by omega) (hv) ?_
    repeat refine kX_one rfl ?_
    refine kX_cal (mr_in L xs (d + 1) σ _ _ _) rfl (Or.inr rfl) rfl rfl rfl (fun r1 σ1 q1 => ?_)
    obtain ⟨rfl, rfl⟩ := q1
    rw [isB_dec]
    repeat refine kX_one rfl ?_
    refine kX_if (fun q => ?_) (fun q => ?_)
    · obtain ⟨q1, q2⟩ := isB_ne.mp (qne q)
      obtain ⟨k, hk, rfl⟩ := (in_N (n := v) (by omega)).mp ⟨q1, q2⟩
      repeat refine kX_one rfl ?_
      refine kX_if (fun q => ?_) (fun q => ?_)
      · have hC : C ≠ 6 := fun e => qne q (by rw [h5.2.1, e]; rfl)
        repeat refine kX_one rfl ?_
        refine kX_cal (mr_claim L xs d σ C _ _ _ _ h5.2.1 (by omega) (Or.inr rfl)) rfl (Or.inr rfl) rfl rfl rfl (fun r1 σ1 q1 => ?_)
        obtain ⟨rfl, rfl⟩ := q1
        repeat refine kX_one rfl ?_
        refine kX_ret (i := .ireturn) (len := 1) rfl (Or.inr rfl) rfl (hN r k hr rfl (by rw [efv]; exact hk) rfl (by omega))
      · have hC : C = 6 := by
          have := qneF q
          rw [h5.2.1] at this
          exact nI_inj this
        repeat refine kX_one rfl ?_
        refine kX_ret (i := .ireturn) (len := 1) rfl (Or.inr rfl) rfl (hF ⟨r, k, hr, rfl, by rw [efv]; exact hk, rfl⟩ hC)
    · have q := qneF q
      have hq : ¬ hasV σ R (nI r) y := fun ⟨r', k, r1, r2, k1, k2⟩ => by
        obtain rfl : r = r' := nI_inj r2
        rw [efv] at k1
        exact isB_ne.mpr ((in_N (by omega)).mpr ⟨k, k1, k2⟩) q
      repeat refine kX_one rfl ?_
      refine kX_ret (i := .ireturn) (len := 1) rfl (Or.inr rfl) rfl (hU hq)
set_option maxRecDepth 100000 in
set_option maxHeartbeats 4000000 in
theorem bo_secret (L : Nat) (xs : Nat → Int32) (d d' m : Nat) (σ : kS) (x y : Int32) (h : bJ m σ) : kXM kT L xs (d + 3) 119 [.ref 0, .int x, .int y] σ (fun r τ => ∃ z, r = some (.int z) ∧ kXM kT L xs (d' + 2) 172 [.ref 232, .int x, .int y] τ (fun r' ω => r' = some (.int z) ∧ bJ m ω)) := by
  have hb := h
  obtain ⟨n, b, R, S, C, kl, h⟩ := h
  have hI := h.1
  have hJ := h.2.1
  have hR := h.2.2.2.1
  have hc := hJ.2.2.2.1
  have hC6 := hc.1
  have hR4 := hI.2.1.1
  unfold kXM
  iterate 4 (refine kX_one rfl ?_)
  refine kX_cal (mc_hasVariable L xs d σ n R x y hJ.2.1) rfl (Or.inr rfl) rfl rfl rfl (fun r1 σ1 q1 => ?_)
  obtain ⟨rfl, rfl⟩ := q1
  repeat refine kX_one rfl ?_
  refine kX_if (fun q => ?_) (fun q => ?_)
  · have hV := (hasV_c hI.2.1 hR).mp (isB_ne.mp (qne q))
    obtain ⟨ro, v, r1, rfl, v1, rfl⟩ := hV
    obtain ⟨⟨v0, hv6, hv⟩, -⟩ := hI.2.1.2.2.1 ro r1
    have hv60 : v < 6 := by rw [hv, fN_nI (by omega)] at v1; omega
    iterate 3 (refine kX_one rfl ?_)
    refine kX_top (hc.2.1) ?_
    iterate 1 (refine kX_one rfl ?_)
    repeat refine kX_one rfl ?_
    refine kX_if (fun q2 => ?_) (fun q2 => ?_)
    · have q2 := qlt q2 C 6
      iterate 6 (refine kX_one rfl ?_)
      refine kX_cal (mf_newClaim L xs (d + 1) σ n R S C 1 (nI ro) (nI ro) (nI v) (Or.inr ⟨rfl, v, hv60, rfl⟩) hJ q2) rfl (Or.inr rfl) rfl rfl rfl (fun r1 σ1 q1 => ?_)
      obtain ⟨rfl, c1, c2, c3, c4⟩ := q1
      have hi : ∀ c, 232 ≤ c → σ1 c = σ c := fun c hc => c2 c (by omega) (by omega)
      have hI1 := aJ_hi h hi
      refine kX_ret (i := .ireturn) (len := 1) rfl (Or.inr rfl) rfl (⟨_, rfl, mg_secret L xs d' σ1 n b R S C kl _ _ _ hI1 (fun z => absurd ((hasV_hi (hi _ (by decide))).mpr ⟨ro, v, r1, rfl, v1, rfl⟩) z) (fun _ z => by omega) (fun r k g1 g2 g3 g4 g5 => ⟨rfl, ?_⟩)⟩)
      exact bJ_cl h q2 c1 c2 c3 c4 (mI_cl (nn := 0) hI1 q2 g1 (fun _ => g3) (fun z => absurd z (by decide)) (by omega)) g2 (fun _ => g4) (fun z => absurd z (by decide))
    · have q2 := qltF q2 C 6
      repeat refine kX_one rfl ?_
      refine kX_ret (i := .ireturn) (len := 1) rfl (Or.inr rfl) rfl (⟨_, rfl, mg_secret L xs d' σ n b R S C kl _ _ _ hI (fun z => absurd ⟨ro, v, r1, rfl, v1, rfl⟩ z) (fun _ _ => ⟨rfl, hb⟩) (fun r k g1 g2 g3 g4 g5 => by omega)⟩)
  · have q : ¬ hasV σ R x y := fun z => isB_ne.mpr ((hasV_c hI.2.1 hR).mpr z) (qneF q)
    repeat refine kX_one rfl ?_
    refine kX_ret (i := .ireturn) (len := 1) rfl (Or.inr rfl) rfl (⟨_, rfl, mg_secret L xs d' σ n b R S C kl _ _ _ hI (fun _ => ⟨rfl, hb⟩) (fun z => absurd z q) (fun r k g1 g2 g3 g4 g5 => absurd ⟨r, k, g1, g2, g3, g4⟩ q)⟩)
set_option maxRecDepth 100000 in
set_option maxHeartbeats 4000000 in
theorem mg_agree (L : Nat) (xs : Nat → Int32) (d : Nat) (σ : kS) (n b R S C : Nat) (kl : List Nat) (x y z : Int32) (Q : Option Value → kS → Prop) (h : mI σ n b R S C kl) (hU : ¬ (isN x R ∧ isN y R) → Q (some (.int (-1))) σ) (hO : isN x R ∧ isN y R → ¬ isN z 7 → Q (some (.int (-2))) σ) (hF : isN x R ∧ isN y R → isN z 7 → C = 6 → Q (some (.int (-4))) σ) (hN : ∀ r a k, r < R → x = nI r → a < R → y = nI a → k ≤ 6 → z = nI k → C < 6 → Q (some (.int (nI C))) (clS σ C 0 (nI r) (nI a) (nI k))) : kXM kT L xs (d + 2) 173 [.ref 232, .int x, .int y, .int z] σ Q := by
  have h2 := h.2.1
  have hR4 := h2.1
  have h5 := h.2.2.2.2.1
  have hC6 := h5.1
  unfold kXM
  repeat refine kX_one rfl ?_
  refine kX_cal (mr_isRole L xs d σ R x h2.2.1 (by omega)) rfl (Or.inr rfl) rfl rfl rfl (fun r1 σ1 q1 => ?_)
  obtain ⟨rfl, rfl⟩ := q1
  repeat refine kX_one rfl ?_
  refine kX_if (fun q => ?_) (fun q => ?_)
  · have q := qeq q
    repeat refine kX_one rfl ?_
    refine kX_ret (i := .ireturn) (len := 1) rfl (Or.inr rfl) rfl (hU (fun z => isB_ne.mpr z.1 q))
  · have hx := isB_ne.mp (qeqF q)
    obtain ⟨r, hr, rfl⟩ := hx
    repeat refine kX_one rfl ?_
    refine kX_cal (mr_isRole L xs d σ R y h2.2.1 (by omega)) rfl (Or.inr rfl) rfl rfl rfl (fun r1 σ1 q1 => ?_)
    obtain ⟨rfl, rfl⟩ := q1
    repeat refine kX_one rfl ?_
    refine kX_if (fun q => ?_) (fun q => ?_)
    · obtain ⟨a, ha, rfl⟩ := isB_ne.mp (qne q)
      repeat refine kX_one rfl ?_
      refine kX_cal (mr_in L xs (d + 1) σ _ _ _) rfl (Or.inr rfl) rfl rfl rfl (fun r1 σ1 q1 => ?_)
      obtain ⟨rfl, rfl⟩ := q1
      rw [isB_dec]
      repeat refine kX_one rfl ?_
      refine kX_if (fun q => ?_) (fun q => ?_)
      · obtain ⟨k, k1, k2, rfl⟩ := in_R (lo := 0) (hi := 6) (by omega) (by omega) (isB_ne.mp (qne q)).1 (isB_ne.mp (qne q)).2
        repeat refine kX_one rfl ?_
        refine kX_if (fun q => ?_) (fun q => ?_)
        · have hC : C ≠ 6 := fun e => qne q (by rw [h5.2.1, e]; rfl)
          repeat refine kX_one rfl ?_
          refine kX_cal (mr_claim L xs d σ C _ _ _ _ h5.2.1 (by omega) (Or.inl rfl)) rfl (Or.inr rfl) rfl rfl rfl (fun r1 σ1 q1 => ?_)
          obtain ⟨rfl, rfl⟩ := q1
          repeat refine kX_one rfl ?_
          refine kX_ret (i := .ireturn) (len := 1) rfl (Or.inr rfl) rfl (hN r a k hr rfl ha rfl k2 rfl (by omega))
        · have hC : C = 6 := by
            have := qneF q
            rw [h5.2.1] at this
            exact nI_inj this
          repeat refine kX_one rfl ?_
          refine kX_ret (i := .ireturn) (len := 1) rfl (Or.inr rfl) rfl (hF ⟨⟨r, hr, rfl⟩, a, ha, rfl⟩ ⟨k, by omega, rfl⟩ hC)
      · have q := qneF q
        have hq : ¬ isN z 7 := fun ⟨k, k1, k2⟩ => by
          refine isB_ne.mpr ?_ q
          subst k2
          have : k = 0 ∨ k = 1 ∨ k = 2 ∨ k = 3 ∨ k = 4 ∨ k = 5 ∨ k = 6 := by omega
          rcases this with rfl | rfl | rfl | rfl | rfl | rfl | rfl <;> decide
        repeat refine kX_one rfl ?_
        refine kX_ret (i := .ireturn) (len := 1) rfl (Or.inr rfl) rfl (hO ⟨⟨r, hr, rfl⟩, a, ha, rfl⟩ hq)
    · have q := qneF q
      repeat refine kX_one rfl ?_
      refine kX_ret (i := .ireturn) (len := 1) rfl (Or.inr rfl) rfl (hU (fun z => isB_ne.mpr z.2 q))
set_option maxRecDepth 100000 in
set_option maxHeartbeats 4000000 in
theorem bo_agree (L : Nat) (xs : Nat → Int32) (d d' m : Nat) (σ : kS) (x y z : Int32) (h : bJ m σ) : kXM kT L xs (d + 3) 120 [.ref 0, .int x, .int y, .int z] σ (fun r τ => ∃ z', r = some (.int z') ∧ kXM kT L xs (d' + 2) 173 [.ref 232, .int x, .int y, .int z] τ (fun r' ω => r' = some (.int z') ∧ bJ m ω)) := by
  have hb := h
  obtain ⟨n, b, R, S, C, kl, h⟩ := h
  have hI := h.1
  have hJ := h.2.1
  have hc := hJ.2.2.2.1
  have hC6 := hc.1
  have hR := hJ.2.1
  have hR4 := hR.1
  unfold kXM
  have k22 : ¬ (isN x R ∧ isN y R) → kX kT L xs (d + 3) 120 22 (lv_args 0 [.ref 0, .int x, .int y, .int z]) [] σ (fun r τ => ∃ z', r = some (.int z') ∧ kXM kT L xs (d' + 2) 173 [.ref 232, .int x, .int y, .int z] τ (fun r' ω => r' = some (.int z') ∧ bJ m ω)) := by
    intro q
    repeat refine kX_one rfl ?_
    refine kX_ret (i := .ireturn) (len := 1) rfl (Or.inr rfl) rfl (⟨_, rfl, mg_agree L xs d' σ n b R S C kl _ _ _ _ hI (fun _ => ⟨rfl, hb⟩) (fun z => absurd z q) (fun z => absurd z q) (fun r a k g1 g2 g3 g4 => absurd ⟨⟨r, g1, g2⟩, a, g3, g4⟩ q)⟩)
  have k34 : isN x R ∧ isN y R → ¬ isN z 7 → kX kT L xs (d + 3) 120 34 (lv_args 0 [.ref 0, .int x, .int y, .int z]) [] σ (fun r τ => ∃ z', r = some (.int z') ∧ kXM kT L xs (d' + 2) 173 [.ref 232, .int x, .int y, .int z] τ (fun r' ω => r' = some (.int z') ∧ bJ m ω)) := by
    intro q q2
    repeat refine kX_one rfl ?_
    refine kX_ret (i := .ireturn) (len := 1) rfl (Or.inr rfl) rfl (⟨_, rfl, mg_agree L xs d' σ n b R S C kl _ _ _ _ hI (fun z => absurd q z) (fun _ _ => ⟨rfl, hb⟩) (fun _ z => absurd z q2) (fun r a k g1 g2 g3 g4 g5 g6 => absurd ⟨k, by omega, g6⟩ q2)⟩)
  iterate 3 (refine kX_one rfl ?_)
  refine kX_cal (mc_hasRole L xs (d + 1) σ R x hR.1 hR.2.1) rfl (Or.inr rfl) rfl rfl rfl (fun r1 σ1 q1 => ?_)
  obtain ⟨rfl, rfl⟩ := q1
  repeat refine kX_one rfl ?_
  refine kX_if (fun q => ?_) (fun q => ?_)
  · exact k22 (fun z => isB_ne.mpr z.1 (qeq q))
  · have hx := isB_ne.mp (qeqF q)
    iterate 3 (refine kX_one rfl ?_)
    refine kX_cal (mc_hasRole L xs (d + 1) σ R y hR.1 hR.2.1) rfl (Or.inr rfl) rfl rfl rfl (fun r1 σ1 q1 => ?_)
    obtain ⟨rfl, rfl⟩ := q1
    repeat refine kX_one rfl ?_
    refine kX_if (fun q2 => ?_) (fun q2 => ?_)
    · have hy := isB_ne.mp (qne q2)
      repeat refine kX_one rfl ?_
      refine kX_if (fun q3 => ?_) (fun q3 => ?_)
      · have q3 : z < 0 := of_decide_eq_true q3
        exact k34 ⟨hx, hy⟩ (fun ⟨j, j1, j2⟩ => nI_pos (show j < 2147483648 by omega) (by rw [← j2]; exact q3))
      · have q3 : ¬ z < 0 := of_decide_eq_false q3
        obtain ⟨k, hk, rfl⟩ := nI_of q3
        repeat refine kX_one rfl ?_
        refine kX_if (fun q4 => ?_) (fun q4 => ?_)
        · have q4 := qle q4 k 6
          iterate 3 (refine kX_one rfl ?_)
          refine kX_top (hc.2.1) ?_
          iterate 1 (refine kX_one rfl ?_)
          repeat refine kX_one rfl ?_
          refine kX_if (fun q5 => ?_) (fun q5 => ?_)
          · have q5 := qlt q5 C 6
            iterate 6 (refine kX_one rfl ?_)
            refine kX_cal (mf_newClaim L xs (d + 1) σ n R S C 0 x y (nI k) (Or.inl rfl) hJ q5) rfl (Or.inr rfl) rfl rfl rfl (fun r1 σ1 q1 => ?_)
            obtain ⟨rfl, c1, c2, c3, c4⟩ := q1
            have hi : ∀ c, 232 ≤ c → σ1 c = σ c := fun c hc => c2 c (by omega) (by omega)
            have hI1 := aJ_hi h hi
            refine kX_ret (i := .ireturn) (len := 1) rfl (Or.inr rfl) rfl (⟨_, rfl, mg_agree L xs d' σ1 n b R S C kl _ _ _ _ hI1 (fun z => absurd ⟨hx, hy⟩ z) (fun _ z => absurd ⟨k, by omega, rfl⟩ z) (fun _ _ z => by omega) (fun r a k' g1 g2 g3 g4 g5 g6 g7 => ⟨rfl, ?_⟩)⟩)
            exact bJ_cl h q5 c1 c2 c3 c4 (mI_cl hI1 q5 g1 (fun z => absurd rfl z) (fun _ => g3) g5) g2 (fun z => absurd rfl z) (fun _ => ⟨g4, g6⟩)
          · have q5 := qltF q5 C 6
            repeat refine kX_one rfl ?_
            refine kX_ret (i := .ireturn) (len := 1) rfl (Or.inr rfl) rfl (⟨_, rfl, mg_agree L xs d' σ n b R S C kl _ _ _ _ hI (fun z => absurd ⟨hx, hy⟩ z) (fun _ z => absurd ⟨k, by omega, rfl⟩ z) (fun _ _ _ => ⟨rfl, hb⟩) (fun r a k' g1 g2 g3 g4 g5 g6 g7 => by omega)⟩)
        · have q4 := qleF q4 k 6
          exact k34 ⟨hx, hy⟩ (fun ⟨j, j1, j2⟩ => by
            have := nI_inj j2
            omega)
    · exact k22 (fun z => isB_ne.mpr z.2 (qneF q2))
end
section
/-! alike: join -/
set_option maxRecDepth 100000 in
set_option maxHeartbeats 4000000 in
theorem mf_tie (L : Nat) (xs : Nat → Int32) (d : Nat) (σ : kS) (c j x y : Nat) (hc : c < 6) (hj : j < 4) (h : σ (163 + 3 * c) 6 = nI j) : kXM kT L xs (d + 1) 39 [.ref (163 + 3 * c), .int (nI x), .int (nI y)] σ (fun q σ' => q = some (.int (nI (j + 1))) ∧ σ' = va_up (va_up (va_up σ (164 + 3 * c) (upd (σ (164 + 3 * c)) j (nI x))) (165 + 3 * c) (upd (σ (165 + 3 * c)) j (nI y))) (163 + 3 * c) (upd (σ (163 + 3 * c)) 6 (nI (j + 1)))) := by
  unfold kXM
  iterate 1 (refine kX_one rfl ?_)
  refine kX_getN rfl rfl (kT_cl hc) rfl ?_
  refine kX_top (h) ?_
  iterate 1 (refine kX_one rfl ?_)
  repeat refine kX_one rfl ?_
  refine kX_if (fun q => ?_) (fun q => ?_)
  · have q := qge q j 4
    omega
  · iterate 1 (refine kX_one rfl ?_)
    refine kX_getN rfl rfl (kT_cl hc) rfl ?_
    iterate 1 (refine kX_one rfl ?_)
    refine kX_getN rfl rfl (kT_cl hc) rfl ?_
    refine kX_top (h) ?_
    iterate 1 (refine kX_one rfl ?_)
    refine kX_iastN rfl ((kT_c1 hc).1) (by decide) (j) (by first | rfl | decide) (hj) ?_
    iterate 1 (refine kX_one rfl ?_)
    refine kX_getN rfl rfl (kT_cl hc) rfl ?_
    iterate 1 (refine kX_one rfl ?_)
    refine kX_getN rfl rfl (kT_cl hc) rfl ?_
    refine kX_top (y := nI j) (by rw [up_ne (by omega)]; exact h) ?_
    iterate 1 (refine kX_one rfl ?_)
    refine kX_iastN rfl ((kT_c1 hc).2) (by decide) (j) (by first | rfl | decide) (hj) ?_
    iterate 2 (refine kX_one rfl ?_)
    refine kX_getN rfl rfl (kT_cl hc) rfl ?_
    refine kX_top (y := nI j) (by rw [up_ne (by omega), up_ne (by omega)]; exact h) ?_
    iterate 2 (refine kX_one rfl ?_)
    refine kX_putN rfl rfl (kT_cl hc) rfl (rfl) rfl ?_
    iterate 1 (refine kX_one rfl ?_)
    refine kX_getN rfl rfl (kT_cl hc) rfl ?_
    refine kX_top (y := nI (j + 1)) (by rw [up_eq]; exact pk_us.trans (nI_1 j)) ?_
    refine kX_ret (i := .ireturn) (len := 1) rfl (Or.inr rfl) rfl ⟨rfl, ?_⟩
    rw [← nI_1]
    funext e
    by_cases e3 : e = 163 + 3 * c
    · subst e3
      rw [up_eq, up_eq, up_ne (by omega), up_ne (by omega)]
      rfl
    · rw [up_ne e3, up_ne e3]
      by_cases e2 : e = 165 + 3 * c
      · subst e2
        rw [up_eq, up_eq, up_ne (by omega)]
      · rw [up_ne e2, up_ne e2]
set_option maxRecDepth 100000 in
set_option maxHeartbeats 4000000 in
theorem mg_joinT (L : Nat) (xs : Nat → Int32) (d : Nat) (σ : kS) (c j : Nat) (k k' : Int32) (hc : c < 6) (hj : j < 4) (e9 : σ 261 c = nI j) (Q : Option Value → kS → Prop) (hQ : Q (some (.int (nI (j + 1)))) (jnS σ c j k k')) : kX kT L xs (d + 1) 174 91 [(0, .ref 232), (1, .int (nI c)), (2, .int k), (3, .int k')] [] σ Q := by
  repeat refine kX_one rfl ?_
  refine kX_ialdV rfl rfl (by decide) (c) (by first | rfl | decide) (by omega) (e9) ?_
  repeat refine kX_one rfl ?_
  refine kX_iastN rfl rfl (by decide) (4 * c + j) (ix4 c j) (by omega) ?_
  repeat refine kX_one rfl ?_
  refine kX_ialdV rfl rfl (by decide) (c) (by first | rfl | decide) (by omega) (e9) ?_
  repeat refine kX_one rfl ?_
  refine kX_iastN rfl rfl (by decide) (4 * c + j) (ix4 c j) (by omega) ?_
  repeat refine kX_one rfl ?_
  refine kX_ialdV rfl rfl (by decide) (c) (by first | rfl | decide) (by omega) (e9) ?_
  repeat refine kX_one rfl ?_
  refine kX_iastN rfl rfl (by decide) (c) (by first | rfl | decide) (by omega) ?_
  repeat refine kX_one rfl ?_
  refine kX_ialdN rfl rfl (by decide) (c) (by first | rfl | decide) (by omega) ?_
  refine kX_top (y := nI (j + 1)) (pk_us.trans (nI_1 j)) ?_
  refine kX_st (jnS σ c j k k') ?_ ?_
  · rw [jnS, nI_succ j]
    rfl
  refine kX_ret (i := .ireturn) (len := 1) rfl (Or.inr rfl) rfl (hQ)
set_option maxRecDepth 100000 in
set_option maxHeartbeats 4000000 in
theorem mg_join30 (L : Nat) (xs : Nat → Int32) (d : Nat) (σ : kS) (c p a j v w : Nat) (y z : Int32) (hc : c < 6) (hp : p < 4) (ha : a < 4) (hv6 : v ≤ 6) (hw6 : w ≤ 6) (hj4 : j ≤ 4) (e2 : σ 258 c = nI p) (e3 : σ 259 c = nI a) (e9 : σ 261 c = nI j) (hv : σ 244 p = nI v) (hw : σ 244 a = nI w) (Q : Option Value → kS → Prop) (hU : ¬ (isN y v ∧ isN z w) → Q (some (.int (-1))) σ) (hF : isN y v ∧ isN z w → j = 4 → Q (some (.int (-4))) σ) (hG : ∀ k k', k < v → y = nI k → k' < w → z = nI k' → j < 4 → Q (some (.int (nI (j + 1)))) (jnS σ c j (nI k) (nI k'))) : kX kT L xs (d + 1) 174 30 [(0, .ref 232), (1, .int (nI c)), (2, .int y), (3, .int z)] [] σ Q := by
  have k78 : ∀ k k', k < v → y = nI k → k' < w → z = nI k' → kX kT L xs (d + 1) 174 78 [(0, .ref 232), (1, .int (nI c)), (2, .int (nI k)), (3, .int (nI k'))] [] σ Q := by
    intro k k' hk ey hk' ez
    repeat refine kX_one rfl ?_
    refine kX_ialdV rfl rfl (by decide) (c) (by first | rfl | decide) (by omega) (e9) ?_
    repeat refine kX_one rfl ?_
    refine kX_if (fun q => ?_) (fun q => ?_)
    · have hj : j ≠ 4 := fun e => qne q (by rw [e]; rfl)
      exact mg_joinT L xs d σ c j (nI k) (nI k') (by omega) (by omega) e9 _ (hG k k' hk ey hk' ez (by omega))
    · have hj : j = 4 := nI_inj (qneF q)
      repeat refine kX_one rfl ?_
      refine kX_ret (i := .ireturn) (len := 1) rfl (Or.inr rfl) rfl (hF ⟨⟨k, hk, ey⟩, k', hk', ez⟩ hj)
  have k53 : ∀ k, k < v → y = nI k → kX kT L xs (d + 1) 174 53 [(0, .ref 232), (1, .int (nI c)), (2, .int (nI k)), (3, .int z)] [] σ Q := by
    intro k hk ey
    repeat refine kX_one rfl ?_
    refine kX_ialdV rfl rfl (by decide) (c) (by first | rfl | decide) (by omega) (e3) ?_
    refine kX_ialdV rfl rfl (by decide) (a) (by first | rfl | decide) (by omega) (hw) ?_
    repeat refine kX_one rfl ?_
    refine kX_cal (mr_in L xs d σ _ _ _) rfl (Or.inr rfl) rfl rfl rfl (fun r1 σ1 q1 => ?_)
    obtain ⟨rfl, rfl⟩ := q1
    rw [isB_dec]
    repeat refine kX_one rfl ?_
    refine kX_if (fun q => ?_) (fun q => ?_)
    · obtain ⟨q1, q2⟩ := isB_ne.mp (qne q)
      obtain ⟨k', hk', ez⟩ := (in_N (n := w) (by omega)).mp ⟨q1, q2⟩
      subst ez
      exact k78 k k' hk ey hk' rfl
    · have q := qneF q
      repeat refine kX_one rfl ?_
      refine kX_ret (i := .ireturn) (len := 1) rfl (Or.inr rfl) rfl (hU (fun e => isB_ne.mpr ((in_N (by omega)).mpr e.2) q))
  repeat refine kX_one rfl ?_
  refine kX_ialdV rfl rfl (by decide) (c) (by first | rfl | decide) (by omega) (e2) ?_
  refine kX_ialdV rfl rfl (by decide) (p) (by first | rfl | decide) (by omega) (hv) ?_
  repeat refine kX_one rfl ?_
  refine kX_cal (mr_in L xs d σ _ _ _) rfl (Or.inr rfl) rfl rfl rfl (fun r1 σ1 q1 => ?_)
  obtain ⟨rfl, rfl⟩ := q1
  rw [isB_dec]
  repeat refine kX_one rfl ?_
  refine kX_if (fun q => ?_) (fun q => ?_)
  · have q := qeq q
    repeat refine kX_one rfl ?_
    refine kX_ret (i := .ireturn) (len := 1) rfl (Or.inr rfl) rfl (hU (fun e => isB_ne.mpr ((in_N (by omega)).mpr e.1) q))
  · obtain ⟨q1, q2⟩ := isB_ne.mp (qeqF q)
    obtain ⟨k, hk, ey⟩ := (in_N (n := v) (by omega)).mp ⟨q1, q2⟩
    subst ey
    exact k53 k hk rfl
set_option maxRecDepth 100000 in
set_option maxHeartbeats 4000000 in
theorem mg_join (L : Nat) (xs : Nat → Int32) (d : Nat) (σ : kS) (n b R S C : Nat) (kl : List Nat) (x y z : Int32) (Q : Option Value → kS → Prop) (h : mI σ n b R S C kl) (hU : ¬ isN x C → Q (some (.int (-1))) σ) (hS : ∀ c, c < C → x = nI c → σ 257 c ≠ 0 → Q (some (.int (-3))) σ) (hV : ∀ c, c < C → x = nI c → σ 257 c = 0 → ¬ (hasV σ R (σ 258 c) y ∧ hasV σ R (σ 259 c) z) → Q (some (.int (-1))) σ) (hF : ∀ c, c < C → x = nI c → σ 257 c = 0 → hasV σ R (σ 258 c) y ∧ hasV σ R (σ 259 c) z → σ 261 c = nI 4 → Q (some (.int (-4))) σ)
    (hN : ∀ c j k k', c < C → x = nI c → σ 257 c = 0 → y = nI k → z = nI k' → hasV σ R (σ 258 c) y → hasV σ R (σ 259 c) z → σ 261 c = nI j → j < 4 → mI (jnS σ c j (nI k) (nI k')) n b R S C kl → Q (some (.int (nI (j + 1)))) (jnS σ c j (nI k) (nI k'))) : kXM kT L xs (d + 1) 174 [.ref 232, .int x, .int y, .int z] σ Q := by
  have h2 := h.2.1
  have hR4 := h2.1
  have h5 := h.2.2.2.2.1
  have hC6 := h5.1
  unfold kXM
  repeat refine kX_one rfl ?_
  refine kX_cal (mr_in L xs d σ _ _ _) rfl (Or.inr rfl) rfl rfl rfl (fun r1 σ1 q1 => ?_)
  obtain ⟨rfl, rfl⟩ := q1
  rw [isB_dec]
  repeat refine kX_one rfl ?_
  refine kX_if (fun q => ?_) (fun q => ?_)
  · obtain ⟨q1, q2⟩ := isB_ne.mp (qne q)
    have q2 : ¬ (σ 232 30 - 1).toInt64 < x.toInt64 := q2
    rw [h5.2.1] at q2
    obtain ⟨c, hc, rfl⟩ := (in_N (by omega)).mp ⟨q1, q2⟩
    obtain ⟨p, a, nn, j, e1, e2, e3, e4, e5, e6, e7, e8, e9, e10⟩ := h5.2.2 c hc
    repeat refine kX_one rfl ?_
    refine kX_baldN rfl rfl (by decide) (c) (by first | rfl | decide) (by omega) ?_
    repeat refine kX_one rfl ?_
    refine kX_if (fun q => ?_) (fun q => ?_)
    · have hs : σ 257 c = 0 := qeq q
      have haR := e5 hs
      obtain ⟨⟨v, hv6, hv⟩, -⟩ := h2.2.2.1 p e1
      obtain ⟨⟨w, hw6, hw⟩, -⟩ := h2.2.2.1 a haR
      have ev : hasV σ R (σ 258 c) y ↔ isN y v := by
        constructor
        · rintro ⟨r, u, r1, r2, u1, rfl⟩
          obtain rfl : p = r := nI_inj (e2.symm.trans r2)
          rw [hv, fN_nI (by omega)] at u1
          exact ⟨u, u1, rfl⟩
        · rintro ⟨u, u1, rfl⟩
          exact ⟨p, u, e1, e2, by rw [hv, fN_nI (by omega)]; exact u1, rfl⟩
      have ew : hasV σ R (σ 259 c) z ↔ isN z w := by
        constructor
        · rintro ⟨r, u, r1, r2, u1, rfl⟩
          obtain rfl : a = r := nI_inj (e3.symm.trans r2)
          rw [hw, fN_nI (by omega)] at u1
          exact ⟨u, u1, rfl⟩
        · rintro ⟨u, u1, rfl⟩
          exact ⟨a, u, haR, e3, by rw [hw, fN_nI (by omega)]; exact u1, rfl⟩
      refine mg_join30 L xs d σ c p a j v w y z (by omega) (by omega) (by omega) hv6 hw6 e8 e2 e3 e9 hv hw _ (fun q => hV c hc rfl hs (by rw [ev, ew]; exact q)) (fun q q2 => hF c hc rfl hs (by rw [ev, ew]; exact q) (by rw [e9, q2])) (fun k k' hk ey hk' ez hj => ?_)
      exact hN c j k k' hc rfl hs ey ez (ev.mpr ⟨k, hk, ey⟩) (ew.mpr ⟨k', hk', ez⟩) e9 hj (mI_jn h hc e9 hj e2 e1 e3 haR (by rw [hv, fN_nI (by omega)]; exact hk) (by rw [hw, fN_nI (by omega)]; exact hk'))
    · have q := qeqF q
      repeat refine kX_one rfl ?_
      refine kX_ret (i := .ireturn) (len := 1) rfl (Or.inr rfl) rfl (hS c hc rfl q)
  · have q := qneF q
    have hq : ¬ isN x C := fun e => by
      refine isB_ne.mpr ?_ q
      show ¬ x.toInt64 < (0 : Int32).toInt64 ∧ ¬ (σ 232 30 - 1).toInt64 < x.toInt64
      rw [h5.2.1]
      exact (in_N (by omega)).mpr e
    repeat refine kX_one rfl ?_
    refine kX_ret (i := .ireturn) (len := 1) rfl (Or.inr rfl) rfl (hU hq)
def tiS (σ : kS) (c j x y : Nat) : kS := va_up (va_up (va_up σ (164 + 3 * c) (upd (σ (164 + 3 * c)) j (nI x))) (165 + 3 * c) (upd (σ (165 + 3 * c)) j (nI y))) (163 + 3 * c) (upd (σ (163 + 3 * c)) 6 (nI (j + 1)))
theorem cJ_ti {σ : kS} {n R S C c j x y : Nat} (h : cJ σ n R S C) (hc : c < C) (hj : j < 4) (j2 : σ (163 + 3 * c) 6 = nI j) (hx : x < 6) (hy : y < 6) : cJ (tiS σ c j x y) n R S C := by
  have hcl := h.2.2.2.1
  have hC6 := hcl.1
  obtain ⟨a1, j', j1, j2', j3⟩ := hcl.2.2 c hc
  obtain rfl : j' = j := nI_inj (j2'.symm.trans j2)
  unfold tiS
  refine cJ_cl h (fun e e1 e2 => ?_) (fun k _ => ?_) ⟨hC6, ?_, fun c' hc' => ?_⟩
  · rw [up_ne (by omega), up_ne (by omega), up_ne (by omega)]
  · rw [up_ne (by omega), up_ne (by omega), up_ne (by omega)]
  · rw [up_ne (by omega), up_ne (by omega), up_ne (by omega)]
    exact hcl.2.1
  · by_cases e : c' = c
    · subst e
      rw [up_eq, up_ne (show 164 + 3 * c' ≠ 163 + 3 * c' by omega), up_ne (show 164 + 3 * c' ≠ 165 + 3 * c' by omega), up_eq, up_ne (show 165 + 3 * c' ≠ 163 + 3 * c' by omega), up_eq]
      refine ⟨a1, j' + 1, by omega, rfl, fun i hi => ?_⟩
      by_cases e : i = j'
      · subst e
        rw [pk_us, pk_us]
        exact ⟨⟨x, hx, rfl⟩, y, hy, rfl⟩
      · rw [pk_un e, pk_un e]
        exact j3 i (by omega)
    · rw [up_ne (show 163 + 3 * c' ≠ 163 + 3 * c by omega), up_ne (show 163 + 3 * c' ≠ 165 + 3 * c by omega), up_ne (show 163 + 3 * c' ≠ 164 + 3 * c by omega), up_ne (show 164 + 3 * c' ≠ 163 + 3 * c by omega), up_ne (show 164 + 3 * c' ≠ 165 + 3 * c by omega), up_ne (show 164 + 3 * c' ≠ 164 + 3 * c by omega), up_ne (show 165 + 3 * c' ≠ 163 + 3 * c by omega), up_ne (show 165 + 3 * c' ≠ 165 + 3 * c by omega), up_ne (show 165 + 3 * c' ≠ 164 + 3 * c by omega)]
      exact hcl.2.2 c' hc'
/-- a pair more is JOINED on both sides -/
theorem bJ_jn {σ : kS} {n b R S C m c j x y : Nat} {kl : List Nat} (h : aJ σ n b R S C kl m) (hc : c < C) (hj : j < 4) (hjo : σ 261 c = nI j) (hx : x < 6) (hy : y < 6) (hI : mI (jnS (tiS σ c j x y) c j (nI x) (nI y)) n b R S C kl) : bJ m (jnS (tiS σ c j x y) c j (nI x) (nI y)) := by
  have hC6 := h.1.2.2.2.2.1.1
  have j2 : σ (163 + 3 * c) 6 = nI j := ((h.2.2.2.2.2.1 c hc).2.2.2.2.1).trans hjo
  have hJ := cJ_ti h.2.1 hc hj j2 hx hy
  obtain ⟨i, -, t, r, s, cc, k, u, f, mm⟩ := h
  have e : ∀ e, e < 163 ∨ 181 ≤ e → tiS σ c j x y e = σ e := fun e he => by
    unfold tiS
    rw [up_ne (by omega), up_ne (by omega), up_ne (by omega)]
  have lo : ∀ e, e < 232 → jnS (tiS σ c j x y) c j (nI x) (nI y) e = tiS σ c j x y e := fun e he => by
    simp only [jnS, va_up]
    repeat rw [if_neg (by omega)]
  have hE : ∀ e, e < 163 ∨ (181 ≤ e ∧ e < 232) → jnS (tiS σ c j x y) c j (nI x) (nI y) e = σ e := fun e1 he => (lo e1 (by omega)).trans (e e1 (by omega))
  have hr : ∀ e1, 232 ≤ e1 → e1 ≠ 262 → e1 ≠ 263 → e1 ≠ 261 → jnS (tiS σ c j x y) c j (nI x) (nI y) e1 = σ e1 := fun e1 c1 c2 c3 c4 => by
    simp only [jnS, va_up]
    rw [if_neg c4, if_neg c3, if_neg c2]
    exact e e1 (by omega)
  have hq : ∀ l : List Nat, l.all (fun c => decide (232 ≤ c ∧ c ≠ 262 ∧ c ≠ 263 ∧ c ≠ 261)) = true → eqC σ (jnS (tiS σ c j x y) c j (nI x) (nI y)) l := fun l hl c hc => by
    have := of_decide_eq_true (List.all_eq_true.mp hl c hc)
    exact hr c this.1 this.2.1 this.2.2.1 this.2.2.2
  have h232 := hr 232 (by decide) (by decide) (by decide) (by decide)
  refine ⟨n, b, R, S, C, kl, hI, cJ_low lo hJ, aT_c (fun c c1 c2 => hE c (by omega)) (hq _ (by decide)) t, aR_c i.1 i.2.1 (fun c c1 c2 => hE c (by omega)) (hq _ (by decide)) r, aS_c i.1.1 i.2.1 i.2.2.1 (hE _ (by decide)) (hE _ (by decide)) (hE _ (by decide)) (hq _ (by decide)) s, fun c' hc' => ?_, aK_eq (by rw [hE 13 (by decide)]) (hE _ (by decide)) k, aU_c (fun c c1 c2 => hE c (by omega)) (fun c c1 c2 => hE c (by omega)) (hE _ (by decide)) (hq _ (by decide)) (by rw [h232]) (by rw [h232]) u, aF_c i.1 i.2.1 i.2.2.1 (fun c c1 c2 => hE c (by omega)) (hq _ (by decide)) (hE _ (by decide)) (hE _ (by decide)) (hE _ (by decide)) (hE _ (by decide)) ⟨by rw [h232], by rw [h232], by rw [h232], by rw [h232]⟩ (hq _ (by decide)) f, aM_eq (Nat.le_refl _) (fun c c1 c2 => hE c (by omega)) mm⟩
  have hCl := i.2.2.2.2.1
  obtain ⟨a1, a2, a3, a4, a5, a6⟩ := cc c' hc'
  have hs : jnS (tiS σ c j x y) c j (nI x) (nI y) 257 = σ 257 := hr _ (by decide) (by decide) (by decide) (by decide)
  have hcB : jnS (tiS σ c j x y) c j (nI x) (nI y) 258 = σ 258 := hr _ (by decide) (by decide) (by decide) (by decide)
  have hcA : jnS (tiS σ c j x y) c j (nI x) (nI y) 259 = σ 259 := hr _ (by decide) (by decide) (by decide) (by decide)
  have hcN : jnS (tiS σ c j x y) c j (nI x) (nI y) 260 = σ 260 := hr _ (by decide) (by decide) (by decide) (by decide)
  have ej : jnS (tiS σ c j x y) c j (nI x) (nI y) 261 = upd (σ 261) c (nI (j + 1)) := by
    show upd (tiS σ c j x y 261) c (nI (j + 1)) = _
    rw [e _ (by decide)]
  have ejB : jnS (tiS σ c j x y) c j (nI x) (nI y) 262 = upd (σ 262) (4 * c + j) (nI x) := by
    show upd (tiS σ c j x y 262) (4 * c + j) (nI x) = _
    rw [e _ (by decide)]
  have ejA : jnS (tiS σ c j x y) c j (nI x) (nI y) 263 = upd (σ 263) (4 * c + j) (nI y) := by
    show upd (tiS σ c j x y 263) (4 * c + j) (nI y) = _
    rw [e _ (by decide)]
  unfold aC1
  rw [hs, hcB, hcA, hcN, ej, ejB, ejA, lo _ (by omega), lo _ (by omega), lo _ (by omega)]
  unfold tiS
  by_cases e0 : c' = c
  · subst e0
    rw [up_eq, up_ne (show 164 + 3 * c' ≠ 163 + 3 * c' by omega), up_ne (show 164 + 3 * c' ≠ 165 + 3 * c' by omega), up_eq, up_ne (show 165 + 3 * c' ≠ 163 + 3 * c' by omega), up_eq, show upd (σ 261) c' (nI (j + 1)) c' = nI (j + 1) from pk_us, fN_nI (by omega)]
    refine ⟨a1, a2, a3, a4, rfl, fun i hi => ?_⟩
    by_cases e1 : i = j
    · subst e1
      rw [pk_us, pk_us, pk_us, pk_us]
      exact ⟨rfl, rfl⟩
    · rw [pk_un e1, pk_un e1, pk_un (by omega), pk_un (by omega)]
      exact a6 i (by rw [hjo, fN_nI (by omega)]; omega)
  · rw [up_ne (show 163 + 3 * c' ≠ 163 + 3 * c by omega), up_ne (show 163 + 3 * c' ≠ 165 + 3 * c by omega), up_ne (show 163 + 3 * c' ≠ 164 + 3 * c by omega), up_ne (show 164 + 3 * c' ≠ 163 + 3 * c by omega), up_ne (show 164 + 3 * c' ≠ 165 + 3 * c by omega), up_ne (show 164 + 3 * c' ≠ 164 + 3 * c by omega), up_ne (show 165 + 3 * c' ≠ 163 + 3 * c by omega), up_ne (show 165 + 3 * c' ≠ 165 + 3 * c by omega), up_ne (show 165 + 3 * c' ≠ 164 + 3 * c by omega), pk_un e0]
    refine ⟨a1, a2, a3, a4, a5, fun i hi => ?_⟩
    have hi4 : i < 4 := by
      obtain ⟨-, -, -, j0, -, -, -, -, -, -, -, q1, q2, -⟩ := hCl.2.2 c' hc'
      rw [q2, fN_nI (by omega)] at hi
      omega
    rw [pk_un (by omega), pk_un (by omega)]
    exact a6 i hi
set_option maxRecDepth 100000 in
set_option maxHeartbeats 4000000 in
theorem bo_join (L : Nat) (xs : Nat → Int32) (d d' m : Nat) (σ : kS) (x y z : Int32) (h : bJ m σ) : kXM kT L xs (d + 3) 121 [.ref 0, .int x, .int y, .int z] σ (fun r τ => ∃ z', r = some (.int z') ∧ kXM kT L xs (d' + 1) 174 [.ref 232, .int x, .int y, .int z] τ (fun r' ω => r' = some (.int z') ∧ bJ m ω)) := by
  have hb := h
  obtain ⟨n, b, R, S, C, kl, h⟩ := h
  have hI := h.1
  have hJ := h.2.1
  have hR := h.2.2.2.1
  have hcl := hJ.2.2.2.1
  have hC6 := hcl.1
  unfold kXM
  iterate 3 (refine kX_one rfl ?_)
  refine kX_cal (mc_hasClaim L xs (d + 1) σ C x hC6 hcl.2.1) rfl (Or.inr rfl) rfl rfl rfl (fun r1 σ1 q1 => ?_)
  obtain ⟨rfl, rfl⟩ := q1
  repeat refine kX_one rfl ?_
  refine kX_if (fun q => ?_) (fun q => ?_)
  · obtain ⟨c, hc, rfl⟩ := isB_ne.mp (qne q)
    have hc6 : c < 6 := by omega
    obtain ⟨a1, j, j1, j2, j3⟩ := hcl.2.2 c hc
    obtain ⟨b1, b2, b3, b4, b5, b6⟩ := h.2.2.2.2.2.1 c hc
    have uni : ∀ c', nI c = nI c' → c' < C → c' = c := fun c' q q2 => (nI_inj q).symm
    iterate 4 (refine kX_one rfl ?_)
    refine kX_aaldN rfl (rfl) (by decide) (by decide) (by decide) (c) (by first | rfl | decide) (hc6) (cl_at hc6) ?_
    iterate 2 (refine kX_one rfl ?_)
    refine kX_getN rfl rfl (kT_cl hc6) rfl ?_
    repeat refine kX_one rfl ?_
    refine kX_if (fun q2 => ?_) (fun q2 => ?_)
    · have hns : σ 257 c = 0 := Classical.byContradiction (fun z => b1.mpr z (qeq q2))
      iterate 3 (refine kX_one rfl ?_)
      refine kX_getN rfl rfl (kT_cl hc6) rfl ?_
      iterate 1 (refine kX_one rfl ?_)
      refine kX_cal (mc_hasVariable L xs d σ n R _ y hJ.2.1) rfl (Or.inr rfl) rfl rfl rfl (fun r1 σ1 q1 => ?_)
      obtain ⟨rfl, rfl⟩ := q1
      have eV := hasV_c (x := σ (163 + 3 * c) 1) (y := y) hI.2.1 hR
      rw [b2] at eV
      have eW := hasV_c (x := σ (163 + 3 * c) 2) (y := z) hI.2.1 hR
      rw [(b4 hns).1] at eW
      rw [b2]
      repeat refine kX_one rfl ?_
      refine kX_if (fun q3 => ?_) (fun q3 => ?_)
      · have q3 : ¬ hasV σ R (σ 258 c) y := fun z => isB_ne.mpr (eV.mpr z) (qeq q3)
        repeat refine kX_one rfl ?_
        refine kX_ret (i := .ireturn) (len := 1) rfl (Or.inr rfl) rfl (⟨_, rfl, mg_join L xs d' σ n b R S C kl _ _ _ _ hI (fun z => absurd ⟨c, hc, rfl⟩ z) (fun c' c1 c2 c3 => absurd hns (by rw [← uni c' c2 c1]; exact c3)) (fun _ _ _ _ _ => ⟨rfl, hb⟩) (fun c' c1 c2 c3 c4 => absurd c4.1 (by rw [uni c' c2 c1]; exact q3)) (fun c' j' k k' c1 c2 c3 _ _ c4 => absurd c4 (by rw [uni c' c2 c1]; exact q3))⟩)
      · have q3 : hasV σ R (σ 258 c) y := eV.mp (isB_ne.mp (qeqF q3))
        iterate 3 (refine kX_one rfl ?_)
        refine kX_getN rfl rfl (kT_cl hc6) rfl ?_
        iterate 1 (refine kX_one rfl ?_)
        refine kX_cal (mc_hasVariable L xs d σ n R _ z hJ.2.1) rfl (Or.inr rfl) rfl rfl rfl (fun r1 σ1 q1 => ?_)
        obtain ⟨rfl, rfl⟩ := q1
        rw [(b4 hns).1]
        repeat refine kX_one rfl ?_
        refine kX_if (fun q4 => ?_) (fun q4 => ?_)
        · have q4 : hasV σ R (σ 259 c) z := eW.mp (isB_ne.mp (qne q4))
          obtain ⟨-, vz, -, -, vz6, hz, -⟩ := eW.mpr q4
          obtain ⟨-, vy, -, -, vy6, hy, -⟩ := eV.mpr q3
          iterate 1 (refine kX_one rfl ?_)
          refine kX_getN rfl rfl (kT_cl hc6) rfl ?_
          refine kX_top (j2) ?_
          iterate 1 (refine kX_one rfl ?_)
          have ej : σ 261 c = nI j := b5.symm.trans j2
          repeat refine kX_one rfl ?_
          refine kX_if (fun q5 => ?_) (fun q5 => ?_)
          · have q5 := qlt q5 j 4
            subst hz hy
            iterate 3 (refine kX_one rfl ?_)
            refine kX_cal (mf_tie L xs (d + 1) σ c j vy vz hc6 q5 j2) rfl (Or.inr rfl) rfl (jcall_v rfl rfl rfl (kT_cl hc6) rfl rfl) rfl (fun r1 σ1 q1 => ?_)
            obtain ⟨rfl, rfl⟩ := q1
            have hi : ∀ e, 232 ≤ e → tiS σ c j vy vz e = σ e := fun e he => by
              unfold tiS
              rw [up_ne (by omega), up_ne (by omega), up_ne (by omega)]
            have hI1 := aJ_hi h hi
            have eB : tiS σ c j vy vz 258 = σ 258 := hi _ (by decide)
            have eA : tiS σ c j vy vz 259 = σ 259 := hi _ (by decide)
            have eS : tiS σ c j vy vz 257 = σ 257 := hi _ (by decide)
            have eJ : tiS σ c j vy vz 261 = σ 261 := hi _ (by decide)
            have eH : ∀ p q, hasV (tiS σ c j vy vz) R p q ↔ hasV σ R p q := fun p q => hasV_hi (hi _ (by decide))
            refine kX_ret (i := .ireturn) (len := 1) rfl (Or.inr rfl) rfl ⟨_, rfl, mg_join L xs d' (tiS σ c j vy vz) n b R S C kl _ _ _ _ hI1 (fun z => absurd ⟨c, hc, rfl⟩ z) (fun c' c1 c2 c3 => ?_) (fun c' c1 c2 c3 c4 => ?_) (fun c' c1 c2 c3 c4 c5 => ?_) (fun c' j' k k' c1 c2 c3 c4 c5 c6 c7 c8 c9 c10 => ?_)⟩
            · rw [eS, uni c' c2 c1] at c3
              exact absurd hns c3
            · rw [eB, eA, eH, eH, uni c' c2 c1] at c4
              exact absurd ⟨q3, q4⟩ c4
            · rw [eJ, uni c' c2 c1, ej] at c5
              have := nI_inj c5
              omega
            · obtain rfl := uni c' c2 c1
              rw [eJ, ej] at c8
              obtain rfl : j = j' := nI_inj c8
              rw [← c4, ← c5] at c10 ⊢
              exact ⟨rfl, bJ_jn h hc q5 ej vy6 vz6 c10⟩
          · have q5 := qltF q5 j 4
            obtain rfl : j = 4 := by omega
            repeat refine kX_one rfl ?_
            refine kX_ret (i := .ireturn) (len := 1) rfl (Or.inr rfl) rfl (⟨_, rfl, mg_join L xs d' σ n b R S C kl _ _ _ _ hI (fun z => absurd ⟨c, hc, rfl⟩ z) (fun c' c1 c2 c3 => absurd hns (by rw [← uni c' c2 c1]; exact c3)) (fun c' c1 c2 c3 c4 => absurd (show hasV σ R (σ 258 c') y ∧ hasV σ R (σ 259 c') z by rw [uni c' c2 c1]; exact ⟨q3, q4⟩) c4) (fun _ _ _ _ _ _ => ⟨rfl, hb⟩) (fun c' j' k k' c1 c2 c3 c4 c5 c6 c7 c8 c9 => by rw [uni c' c2 c1, ej] at c8; have := nI_inj c8; omega)⟩)
        · have q4 : ¬ hasV σ R (σ 259 c) z := fun z => isB_ne.mpr (eW.mpr z) (qneF q4)
          repeat refine kX_one rfl ?_
          refine kX_ret (i := .ireturn) (len := 1) rfl (Or.inr rfl) rfl (⟨_, rfl, mg_join L xs d' σ n b R S C kl _ _ _ _ hI (fun z => absurd ⟨c, hc, rfl⟩ z) (fun c' c1 c2 c3 => absurd hns (by rw [← uni c' c2 c1]; exact c3)) (fun _ _ _ _ _ => ⟨rfl, hb⟩) (fun c' c1 c2 c3 c4 => absurd c4.2 (by rw [uni c' c2 c1]; exact q4)) (fun c' j' k k' c1 c2 c3 _ _ _ c4 => absurd c4 (by rw [uni c' c2 c1]; exact q4))⟩)
    · have hse : σ 257 c ≠ 0 := b1.mp (qeqF q2)
      repeat refine kX_one rfl ?_
      refine kX_ret (i := .ireturn) (len := 1) rfl (Or.inr rfl) rfl (⟨_, rfl, mg_join L xs d' σ n b R S C kl _ _ _ _ hI (fun z => absurd ⟨c, hc, rfl⟩ z) (fun _ _ _ _ => ⟨rfl, hb⟩) (fun c' c1 c2 c3 => absurd c3 (by rw [uni c' c2 c1]; exact hse)) (fun c' c1 c2 c3 => absurd c3 (by rw [uni c' c2 c1]; exact hse)) (fun c' j' k k' c1 c2 c3 => absurd c3 (by rw [uni c' c2 c1]; exact hse))⟩)
  · have q : ¬ isN x C := fun z => isB_ne.mpr z (qneF q)
    repeat refine kX_one rfl ?_
    refine kX_ret (i := .ireturn) (len := 1) rfl (Or.inr rfl) rfl (⟨_, rfl, mg_join L xs d' σ n b R S C kl _ _ _ _ hI (fun _ => ⟨rfl, hb⟩) (fun c' c1 c2 => absurd ⟨c', c1, c2⟩ q) (fun c' c1 c2 => absurd ⟨c', c1, c2⟩ q) (fun c' c1 c2 => absurd ⟨c', c1, c2⟩ q) (fun c' j' k k' c1 c2 => absurd ⟨c', c1, c2⟩ q)⟩)
end
section
/-! alike: clear, end, begin -/
set_option maxRecDepth 100000 in
set_option maxHeartbeats 4000000 in
theorem mf_forget (L : Nat) (xs : Nat → Int32) (d : Nat) (σ : kS) : kXM kT L xs (d + 3) 79 [.ref 195] σ (fun r σ' => r = none ∧ σ' 196 5 = 0 ∧ σ' 195 9 = -1 ∧ σ' 195 10 = 0 ∧ σ' 195 11 = 0 ∧ σ' 195 12 = 0 ∧ (∀ s, s < 1024 → σ' 201 s = -1) ∧ ∀ c, c ≠ 195 → c ≠ 196 → c ≠ 201 → σ' c = σ c) := by
  unfold kXM
  iterate 2 (refine kX_one rfl ?_)
  have hem : kXM kT L xs (d + 2) 87 [.ref 196] σ (fun r σ' => r = none ∧ σ' 196 5 = 0 ∧ σ' 195 = σ 195 ∧ (∀ s, s < 1024 → σ' 201 s = -1) ∧ ∀ c, c ≠ 196 → c ≠ 201 → σ' c = σ c) := by
    unfold kXM
    iterate 6 (refine kX_one rfl ?_)
    refine kX_cal (kX_fill (T := kT) L xs d (-1) _ (a := 201) (n := 1024) (g0 := fun _ => 0) rfl (by decide)) rfl (Or.inr rfl) rfl rfl rfl (fun r1 σ1 q1 => ?_)
    obtain ⟨rfl, rfl⟩ := q1
    refine kX_ret (i := .return_) (len := 1) rfl (Or.inr rfl) rfl ⟨rfl, rfl, rfl, fun s hs => if_pos hs, fun c c1 c2 => ?_⟩
    unfold va_up
    rw [if_neg c2, if_neg c1]
  refine kX_cal hem rfl (Or.inr rfl) rfl rfl rfl (fun r1 ρ q1 => ?_)
  obtain ⟨rfl, g1, g2, g4, g3⟩ := q1
  repeat refine kX_one rfl ?_
  refine kX_ret (i := .return_) (len := 1) rfl (Or.inr rfl) rfl ⟨rfl, g1, rfl, rfl, rfl, rfl, g4, fun c c1 c2 c3 => ?_⟩
  unfold va_up
  rw [if_neg c1, if_neg c1, if_neg c1, if_neg c1]
  exact g3 c c2 c3
set_option maxRecDepth 100000 in
set_option maxHeartbeats 4000000 in
theorem kf_clear (L : Nat) (xs : Nat → Int32) (d : Nat) (σ : kS) (n R S C : Nat) (h : cJ σ n R S C) : kXM kT L xs (d + 4) 138 [.ref 0] σ (fun r σ' => r = some (.int (nI n)) ∧ cHi σ σ' ∧ cJ σ' 0 0 0 0 ∧ (∀ s, s < 256 → σ' 7 s = -1) ∧ σ' 13 10 = 0 ∧ σ' 181 8 = 0 ∧ σ' 196 5 = 0 ∧ σ' 195 9 = -1 ∧ σ' 195 10 = 0 ∧ σ' 195 11 = 0 ∧ ∀ c, 186 ≤ c → c ≠ 195 → c ≠ 196 → c ≠ 201 → σ' c = σ c) := by
  obtain ⟨h1, h2, h3, h4, h5, h6, h7, h8, h9, h10, h11⟩ := h
  unfold kXM
  iterate 10 (refine kX_one rfl ?_)
  refine kX_cal (mf_forget L xs d _) rfl (Or.inr rfl) rfl rfl rfl (fun r1 ρ q1 => ?_)
  obtain ⟨rfl, g1, g2, g5, g6, -, -, g3⟩ := q1
  have hoth : ∀ c, c ≠ 181 → c ≠ 195 → c ≠ 196 → c ≠ 201 → ρ c = σ c := fun c c0 c1 c2 c3 => by
    rw [g3 c c1 c2 c3]
    unfold va_up
    rw [if_neg c0]
  have hon : ρ 181 8 = 0 := by
    rw [g3 181 (by decide) (by decide) (by decide)]
    rfl
  iterate 2 (refine kX_one rfl ?_)
  have hbe : kXM kT L xs (d + 3) 2 [.ref 13] ρ (fun r σ' => r = none ∧ σ' = va_up ρ 13 (upd (upd (upd (upd (ρ 13) 2 0) 6 0) 8 0) 10 0)) := by
    unfold kXM
    repeat refine kX_one rfl ?_
    refine kX_ret (i := .return_) (len := 1) rfl (Or.inr rfl) rfl ⟨rfl, ?_⟩
    funext c; first
      | ((repeat (refine va_case ?_ ?_; (· (intro h; first | (subst h; rfl) | (unfold va_up; repeat' split; (all_goals first | rfl | omega | (subst_vars; rfl) | (funext j; unfold upd; repeat' split; all_goals first | rfl | omega | (subst_vars; rfl)))))); intro h)); (repeat (refine va_case2 ?_ ?_; (· (intro h; first | exact absurd h (by assumption) | (subst h; rfl) | (subst h; funext j; unfold upd; repeat' split; (all_goals first | rfl | omega | (subst_vars; rfl))))); intro h)); rfl)
      | (unfold va_up; repeat' split
         all_goals first | rfl | omega | (subst_vars; rfl) | (funext j; unfold upd; repeat' split; all_goals first | rfl | omega | (subst_vars; rfl)))
  refine kX_cal hbe rfl (Or.inr rfl) rfl rfl rfl (fun r1 ρ2 q1 => ?_)
  obtain ⟨rfl, rfl⟩ := q1
  iterate 2 (refine kX_one rfl ?_)
  have hte : kXM kT L xs (d + 3) 93 [.ref 1] (va_up ρ 13 (upd (upd (upd (upd (ρ 13) 2 0) 6 0) 8 0) 10 0)) (fun r σ' => r = none ∧ (∀ s, s < 256 → σ' 7 s = -1) ∧ σ' 1 11 = 0 ∧ σ' 13 2 = 0 ∧ σ' 13 6 = 0 ∧ σ' 13 8 = 0 ∧ σ' 13 10 = 0 ∧ ∀ c, c ≠ 13 → c ≠ 1 → c ≠ 7 → σ' c = ρ c) := by
    unfold kXM
    iterate 6 (refine kX_one rfl ?_)
    refine kX_cal (kX_fill (T := kT) L xs (d + 1) (-1) _ (a := 7) (n := 256) (g0 := fun _ => 0) rfl (by decide)) rfl (Or.inr rfl) rfl rfl rfl (fun r1 σ1 q1 => ?_)
    obtain ⟨rfl, rfl⟩ := q1
    refine kX_ret (i := .return_) (len := 1) rfl (Or.inr rfl) rfl ⟨rfl, fun s hs => ?_, rfl, rfl, rfl, rfl, rfl, fun c c1 c2 c3 => ?_⟩
    · exact if_pos hs
    · unfold va_up
      rw [if_neg c3, if_neg c2, if_neg c1]
  refine kX_cal hte rfl (Or.inr rfl) rfl rfl rfl (fun r1 τ q1 => ?_)
  obtain ⟨rfl, t1, t2, t3, t4, t5, t6, t7⟩ := q1
  have hall : ∀ c, c ≠ 13 → c ≠ 1 → c ≠ 7 → c ≠ 181 → c ≠ 195 → c ≠ 196 → c ≠ 201 → τ c = σ c := fun c c1 c2 c3 c4 c5 c6 c7 => (t7 c c1 c2 c3).trans (hoth c c4 c5 c6 c7)
  have hk : ∀ c, 186 ≤ c → c ≠ 195 → c ≠ 196 → c ≠ 201 → τ c = σ c := fun c c0 c1 c2 c3 => hall c (by omega) (by omega) (by omega) (by omega) c1 c2 c3
  have hgt : ∀ g, 200 ≤ g → τ 2 g = σ 2 g ∧ τ 3 g = σ 3 g ∧ τ 4 g = σ 4 g ∧ τ 6 g = σ 6 g := fun g _ => by
    rw [hall 2 (by decide) (by decide) (by decide) (by decide) (by decide) (by decide) (by decide), hall 3 (by decide) (by decide) (by decide) (by decide) (by decide) (by decide) (by decide), hall 4 (by decide) (by decide) (by decide) (by decide) (by decide) (by decide) (by decide), hall 6 (by decide) (by decide) (by decide) (by decide) (by decide) (by decide) (by decide)]
    exact ⟨rfl, rfl, rfl, rfl⟩
  repeat refine kX_one rfl ?_
  refine kX_ret (i := .ireturn) (len := 1) rfl (Or.inr rfl) rfl ⟨rV h1.2.1, fun c hc => hk c (by omega) (by omega) (by omega) (by omega), ⟨⟨by omega, t2, fun s hs => Or.inl (t1 s hs), fun t ht => absurd ht (Nat.not_lt_zero t)⟩, ⟨by omega, t3, fun r hr => absurd hr (Nat.not_lt_zero r)⟩, ⟨by omega, t4, fun s hs => absurd hs (Nat.not_lt_zero s), fun s k hs => absurd hs (Nat.not_lt_zero s)⟩, ⟨by omega, t5, fun c hc => absurd hc (Nat.not_lt_zero c)⟩, ⟨0, by omega, t6⟩, cKw_eq (by decide) (hk _ (by decide) (by decide) (by decide) (by decide)) (hk _ (by decide) (by decide) (by decide) (by decide)) (hk _ (by decide) (by decide) (by decide) (by decide)) hgt h6, cKw_eq (by decide) (hk _ (by decide) (by decide) (by decide) (by decide)) (hk _ (by decide) (by decide) (by decide) (by decide)) (hk _ (by decide) (by decide) (by decide) (by decide)) hgt h7, cKw_eq (by decide) (hk _ (by decide) (by decide) (by decide) (by decide)) (hk _ (by decide) (by decide) (by decide) (by decide)) (hk _ (by decide) (by decide) (by decide) (by decide)) hgt h8, Or.inl ?_, cSr_0 ?_ ?_, cQ_eq (hk _ (by decide) (by decide) (by decide) (by decide)) (hk _ (by decide) (by decide) (by decide) (by decide)) h11⟩, t1, t6, ?_, ?_, ?_, ?_, ?_, hk⟩
  · rw [t7 181 (by decide) (by decide) (by decide)]
    exact hon
  · rw [t7 196 (by decide) (by decide) (by decide)]
    exact g1
  · rw [t7 195 (by decide) (by decide) (by decide)]
    exact g2
  · rw [t7 181 (by decide) (by decide) (by decide)]
    exact hon
  · rw [t7 196 (by decide) (by decide) (by decide)]
    exact g1
  · rw [t7 195 (by decide) (by decide) (by decide)]
    exact g2
  · rw [t7 195 (by decide) (by decide) (by decide)]
    exact g5
  · rw [t7 195 (by decide) (by decide) (by decide)]
    exact g6
set_option maxRecDepth 100000 in
set_option maxHeartbeats 4000000 in
theorem mf_clear (L : Nat) (xs : Nat → Int32) (d : Nat) (σ : kS) (n b R S C : Nat) (kl : List Nat) (h : mI σ n b R S C kl) : kXM kT L xs (d + 2) 226 [.ref 232] σ (fun r σ' => r = some (.int (nI n)) ∧ mLow σ σ' ∧ mI σ' 0 200 0 0 0 [] ∧ σ' 232 52 = 0 ∧ σ' 232 69 = 0 ∧ σ' 232 70 = 0 ∧ σ' 232 71 = 0 ∧ σ' 232 72 = -6) := by
  have h1 := h.1
  unfold kXM
  repeat refine kX_one rfl ?_
  refine kX_cal (mr_release L xs d σ n b 200 h1 (by omega) h1.2.1) rfl (Or.inr rfl) rfl rfl rfl (fun r1 σ1 q1 => ?_)
  obtain ⟨rfl, hd, q1, -⟩ := q1
  have hl1 : mLow σ σ1 := by
    rw [q1]
    exact mLow_trans (mLow_up σ _ (by decide)) (mLow_up _ _ (by decide))
  have hb1 : σ1 232 10 = nI 200 := by
    rw [q1]
    rfl
  clear q1
  repeat refine kX_one rfl ?_
  refine kX_cal (mr_emptyTable L xs d σ1) rfl (Or.inr rfl) rfl rfl rfl (fun r2 σ2 q2 => ?_)
  obtain ⟨rfl, hd2, rfl, hh⟩ := q2
  repeat refine kX_one rfl ?_
  refine kX_cal (mr_forget L xs d _) rfl (Or.inr rfl) rfl rfl rfl (fun r3 σ3 q3 => ?_)
  obtain ⟨rfl, rfl⟩ := q3
  repeat refine kX_one rfl ?_
  refine kX_ret (i := .ireturn) (len := 1) rfl (Or.inr rfl) rfl ⟨rV h1.2.2.2.1, ?_, mI_empty rfl hb1 rfl rfl rfl rfl rfl rfl hh, rfl, rfl, rfl, rfl, rfl⟩
  refine mLow_trans hl1 ?_
  intro c hc
  simp only [va_up]
  repeat rw [if_neg (by omega)]
theorem bo_clear (L : Nat) (xs : Nat → Int32) (d d' m : Nat) (σ : kS) (h : bJ m σ) : kXM kT L xs (d + 4) 138 [.ref 0] σ (fun r τ => ∃ z, r = some (.int z) ∧ kXM kT L xs (d' + 2) 226 [.ref 232] τ (fun r' ω => r' = some (.int z) ∧ bJ m ω)) := by
  obtain ⟨n, b, R, S, C, kl, h⟩ := h
  refine kXM_mono (kf_clear L xs d σ n R S C h.2.1) (fun r τ q => ?_)
  obtain ⟨rfl, q1, q2, q3, q4, q5, q6, q7, q8, q9, q10⟩ := q
  refine ⟨_, rfl, kXM_mono (mf_clear L xs d' τ n b R S C kl (aJ_hi h q1)) (fun r ω p => ?_)⟩
  obtain ⟨rfl, p1, p2, p3, p4, p5, p6, p7⟩ := p
  refine ⟨rfl, 0, 200, 0, 0, 0, [], p2, cJ_low p1 q2, ⟨fun t ht => absurd ht (Nat.not_lt_zero t), fun s hs => Or.inl ⟨?_, fun t _ z => absurd z.1.1 (Nat.not_lt_zero t)⟩, fun t ht => absurd ht.1 (Nat.not_lt_zero t)⟩, fun r hr => absurd hr (Nat.not_lt_zero r), fun r hr => absurd hr (Nat.not_lt_zero r), fun r hr => absurd hr (Nat.not_lt_zero r), ⟨?_, lst_nil _⟩, aU_none ?_ p3, aF_none ?_ ?_ ?_ ?_ p4 p5 p6 p7, ?_⟩
  · rw [p1 _ (by decide)]
    exact q3 s hs
  · rw [p1 _ (by decide)]
    exact q4
  · rw [p1 _ (by decide)]
    exact q5
  · rw [p1 _ (by decide)]
    exact q6
  · rw [p1 _ (by decide)]
    exact q8
  · rw [p1 _ (by decide)]
    exact q9
  · rw [p1 _ (by decide)]
    exact q7
  · obtain ⟨m1, m2, m3, a1, a2, a3, a4, a5, a6⟩ := h.2.2.2.2.2.2.2.2.2
    exact ⟨m1, m2, m3, a1, a2, a3, kMs_eq (fun c c1 c2 => (p1 c (by omega)).trans (q10 c (by omega) (by omega) (by omega) (by omega))) a4, kMs_eq (fun c c1 c2 => (p1 c (by omega)).trans (q10 c (by omega) (by omega) (by omega) (by omega))) a5, kMs_eq (fun c c1 c2 => (p1 c (by omega)).trans (q10 c (by omega) (by omega) (by omega) (by omega))) a6⟩
/-- cells that have not changed, by lists -/
theorem eqC_of {σ ω : kS} {P : Nat → Prop} [DecidablePred P] (h : ∀ c, P c → ω c = σ c) (l : List Nat) (hl : l.all (fun c => decide (P c)) = true) : eqC σ ω l := fun c hc => h c (of_decide_eq_true (List.all_eq_true.mp hl c hc))
/-- both RUNS have changed, nothing else -/
theorem bJ_run {σ ω : kS} {n b b' R S C m : Nat} {kl : List Nat} (h : aJ σ n b R S C kl m) (hI : mI ω n b' R S C kl) (hJ : cJ ω n R S C) (e : ∀ c, c < 232 → c ≠ 181 → c ≠ 182 → c ≠ 183 → ω c = σ c) (er : ∀ c, 232 < c → c ≠ 264 → c ≠ 265 → c ≠ 274 → c ≠ 275 → ω c = σ c) (eo : ∀ j, j ≠ 52 → j ≠ 55 → j ≠ 47 → ω 232 j = σ 232 j) (hU : aU ω n S kl) : bJ m ω := by
  obtain ⟨i, -, t, r, s, c, k, -, f, mm⟩ := h
  have hr : ∀ l : List Nat, l.all (fun c => decide (232 < c ∧ c ≠ 264 ∧ c ≠ 265 ∧ c ≠ 274 ∧ c ≠ 275)) = true → eqC σ ω l := eqC_of (fun c q => er c q.1 q.2.1 q.2.2.1 q.2.2.2.1 q.2.2.2.2)
  have hl : ∀ c, c < 181 → ω c = σ c := fun c hc => e c (by omega) (by omega) (by omega) (by omega)
  have hh : ∀ c, 186 ≤ c → c < 232 → ω c = σ c := fun c c1 c2 => e c (by omega) (by omega) (by omega) (by omega)
  exact ⟨n, b', R, S, C, kl, hI, hJ, aT_c (fun c c1 c2 => hl c (by omega)) (hr _ (by decide)) t, aR_c i.1 i.2.1 (fun c c1 c2 => hl c (by omega)) (hr _ (by decide)) r, aS_c i.1.1 i.2.1 i.2.2.1 (hl _ (by decide)) (hl _ (by decide)) (hl _ (by decide)) (hr _ (by decide)) s, aC_c i.2.2.2.2.1 (fun c c1 c2 => hl c (by omega)) (hr _ (by decide)) c, aK_eq (by rw [hl 13 (by decide)]) (hl _ (by decide)) k, hU, aF_c i.1 i.2.1 i.2.2.1 (fun c c1 c2 => hl c (by omega)) (hr _ (by decide)) (hh _ (by decide) (by decide)) (hh _ (by decide) (by decide)) (hh _ (by decide) (by decide)) (hh _ (by decide) (by decide)) ⟨eo _ (by decide) (by decide) (by decide), eo _ (by decide) (by decide) (by decide), eo _ (by decide) (by decide) (by decide), eo _ (by decide) (by decide) (by decide)⟩ (hr _ (by decide)) f, aM_eq (Nat.le_refl _) (fun c c1 c2 => hh c c1 (by omega)) mm⟩
set_option maxRecDepth 100000 in
set_option maxHeartbeats 4000000 in
theorem bo_end (L : Nat) (xs : Nat → Int32) (d d' m : Nat) (σ : kS) (h : bJ m σ) : kXM kT L xs (d + 1) 123 [.ref 0] σ (fun r τ => ∃ z, r = some (.int z) ∧ kXM kT L xs (d' + 1) 192 [.ref 232] τ (fun r' ω => r' = some (.int z) ∧ bJ m ω)) := by
  have hb := h
  obtain ⟨n, b, R, S, C, kl, h⟩ := h
  have hU := h.2.2.2.2.2.2.2.1
  have e : ∀ c, c < 181 ∨ 186 ≤ c → va_up σ 181 (upd (σ 181) 8 (Int32.ofInt 0)) c = σ c := fun c hc => by
    unfold va_up
    rw [if_neg (by omega)]
  unfold kXM
  repeat refine kX_one rfl ?_
  refine kX_if (fun q => ?_) (fun q => ?_)
  · have q : σ 232 52 ≠ 0 := hU.1.mp (qne q)
    repeat refine kX_one rfl ?_
    refine kX_ret (i := .ireturn) (len := 1) rfl (Or.inr rfl) rfl (⟨_, rfl, ?_⟩)
    rcases h.1.2.2.2.2.2.1 with h6 | ⟨h6, ds, g⟩
    · exact absurd h6 q
    · iterate 2 (refine kX_one rfl ?_)
      refine kX_top (y := 1) h6 ?_
      repeat refine kX_one rfl ?_
      refine kX_ret (i := .ireturn) (len := 1) rfl (Or.inr rfl) rfl ⟨?_, ?_⟩
      · exact rV ((hU.2 q).1.symm)
      · refine bJ_run h (b' := b) ⟨h.1.1, h.1.2.1, h.1.2.2.1, h.1.2.2.2.1, h.1.2.2.2.2.1, Or.inl rfl, h.1.2.2.2.2.2.2⟩ (cJ_low (σ := va_up σ 181 (upd (σ 181) 8 (Int32.ofInt 0))) (fun c hc => up_ne (by omega)) (cJ_run h.2.1 e (Or.inl rfl))) (fun c c1 c2 _ _ => ?_) (fun c c1 _ _ _ _ => ?_) (fun j j1 _ _ => ?_) (aU_none rfl rfl)
        · rw [up_ne (by omega), up_ne c2]
        · rw [up_ne (by omega), up_ne (by omega)]
        · exact pk_un j1
  · have q : ¬ σ 232 52 ≠ 0 := fun z => hU.1.mpr z (qneF q)
    repeat refine kX_one rfl ?_
    refine kX_ret (i := .ireturn) (len := 1) rfl (Or.inr rfl) rfl (⟨_, rfl, ?_⟩)
    have h6 : σ 232 52 = 0 := Classical.byContradiction q
    iterate 2 (refine kX_one rfl ?_)
    refine kX_top (h6) ?_
    repeat refine kX_one rfl ?_
    refine kX_ret (i := .ireturn) (len := 1) rfl (Or.inr rfl) rfl (⟨rfl, hb⟩)
set_option maxRecDepth 100000 in
set_option maxHeartbeats 4000000 in
theorem mf_runStart (L : Nat) (xs : Nat → Int32) (d : Nat) (σ : kS) (n R S C : Nat) (h : cJ σ n R S C) : kXM kT L xs (d + 1) 66 [.ref 181] σ (fun r σ' => r = none ∧ σ' = va_up (va_up σ 181 (upd (upd (upd (σ 181) 8 1) 7 0) 9 (-1))) 182 (va_cpy (σ 17) (σ 182) 0 0 28) ∧ cJ σ' n R S C) := by
  unfold kXM
  repeat refine kX_one rfl ?_
  have e : ∀ c, c < 181 ∨ 186 ≤ c → va_up (va_up σ 181 (upd (upd (upd (σ 181) 8 (Int32.ofInt 1)) 7 (Int32.ofInt 0)) 9 (Int32.ofInt (-1)))) 182 (va_cpy (σ 17) (σ 182) 0 0 28) c = σ c := fun c hc => by
    unfold va_up
    rw [if_neg (by omega), if_neg (by omega)]
  refine kX_st (va_up (va_up σ 181 (upd (upd (upd (σ 181) 8 (Int32.ofInt 1)) 7 (Int32.ofInt 0)) 9 (Int32.ofInt (-1)))) 182 (va_cpy (σ 17) (σ 182) 0 0 28)) ?_ ?_
  · funext c; first
      | ((repeat (refine va_case ?_ ?_; (· (intro h; first | (subst h; rfl) | (unfold va_up; repeat' split; (all_goals first | rfl | omega | (subst_vars; rfl) | (funext j; unfold upd; repeat' split; all_goals first | rfl | omega | (subst_vars; rfl)))))); intro h)); (repeat (refine va_case2 ?_ ?_; (· (intro h; first | exact absurd h (by assumption) | (subst h; rfl) | (subst h; funext j; unfold upd; repeat' split; (all_goals first | rfl | omega | (subst_vars; rfl))))); intro h)); rfl)
      | (unfold va_up; repeat' split
         all_goals first | rfl | omega | (subst_vars; rfl) | (funext j; unfold upd; repeat' split; all_goals first | rfl | omega | (subst_vars; rfl)))
  refine kX_ret (i := .return_) (len := 1) rfl (Or.inr rfl) rfl ⟨rfl, rfl, cJ_run h e (Or.inr ⟨rfl, ⟨0, by omega, rfl, fun i hi => absurd hi (Nat.not_lt_zero i)⟩, ?_, Or.inl rfl⟩)⟩
  intro s k hs hk
  have hS4 := h.2.2.1.1
  have := h.2.2.1.2.2.2 s k hs hk
  show va_cpy (σ 17) (σ 182) 0 0 28 (0 + 7 * s + 1 + k) = -1 ∨ ∃ z, z < n ∧ va_cpy (σ 17) (σ 182) 0 0 28 (0 + 7 * s + 1 + k) = nI z ∧ σ 8 z = 1
  have e2 : va_cpy (σ 17) (σ 182) 0 0 28 (0 + 7 * s + 1 + k) = σ 17 (0 + 7 * s + 1 + k) := by
    unfold va_cpy
    rw [if_pos (by omega)]
    congr 1
    omega
  rw [e2]
  exact this
theorem cpy_at {A B : Nat → Int32} {i : Nat} (h : i < 28) : va_cpy A B 0 0 28 i = A i := by
  unfold va_cpy
  rw [if_pos (by omega)]
  congr 1
  omega
set_option maxRecDepth 100000 in
set_option maxHeartbeats 4000000 in
theorem bo_begin (L : Nat) (xs : Nat → Int32) (d d' m : Nat) (σ : kS) (h : bJ m σ) : kXM kT L xs (d + 2) 122 [.ref 0] σ (fun r τ => ∃ z, r = some (.int z) ∧ kXM kT L xs (d' + 2) 191 [.ref 232] τ (fun r' ω => r' = some (.int z) ∧ bJ m ω)) := by
  obtain ⟨n, b, R, S, C, kl, h⟩ := h
  have hS4 := h.1.2.2.1.1
  have hst : kXM kT L xs (d + 1) 66 [.ref 181] σ (fun r σ' => r = none ∧ σ' = va_up (va_up σ 181 (upd (upd (upd (σ 181) 8 1) 7 0) 9 (-1))) 182 (va_cpy (σ 17) (σ 182) 0 0 28) ∧ cJ σ' n R S C) := by
    refine kXM_mono (mf_runStart L xs d σ n R S C h.2.1) (fun r σ' q => q)
  unfold kXM
  iterate 2 (refine kX_one rfl ?_)
  refine kX_cal hst rfl (Or.inr rfl) rfl rfl rfl (fun r1 σ1 q1 => ?_)
  obtain ⟨rfl, rfl, hJ⟩ := q1
  repeat refine kX_one rfl ?_
  have hi : ∀ c, 232 ≤ c → va_up (va_up σ 181 (upd (upd (upd (σ 181) 8 1) 7 0) 9 (-1))) 182 (va_cpy (σ 17) (σ 182) 0 0 28) c = σ c := fun c hc => by rw [up_ne (by omega), up_ne (by omega)]
  refine kX_ret (i := .ireturn) (len := 1) rfl (Or.inr rfl) rfl (⟨_, rfl, ?_⟩)
  refine kXM_mono (mr_begin L xs d' _ n b R S C kl (aJ_hi h hi)) (fun r ω p => ?_)
  obtain ⟨rfl, p1, p2, D, V, rfl, hD, hV⟩ := p
  refine ⟨rV (h.2.1.2.2.1.2.1).symm, bJ_run h (b' := b) p2 (cJ_low p1 hJ) (fun c c1 c2 c3 _ => (p1 c c1).trans (by rw [up_ne c3, up_ne c2])) (fun c c1 c2 c3 _ _ => by rw [up_ne (by omega), up_ne c3, up_ne c2, up_ne (by omega), up_ne (by omega)]) (fun j j1 j2 j3 => ?_) ⟨⟨fun _ => (show (1 : Int32) ≠ 0 by decide), fun _ => (show (1 : Int32) ≠ 0 by decide)⟩, fun _ => ⟨rfl, fun i hi => ?_, fun s hs => ⟨?_, fun k hk => ?_⟩, fun s hs k hk _ => ?_, fun hg => ?_⟩⟩⟩
  · show upd (upd (upd (σ 232) 52 1) 55 0) 47 0 j = _
    rw [pk_un j3, pk_un j2, pk_un j1]
  · exact absurd hi (Nat.not_lt_zero i)
  · show va_cpy (σ 17) (σ 182) 0 0 28 (7 * s) = D s
    rw [hD s hs, cpy_at (by omega)]
    exact (h.2.2.2.2.1 s hs).2.1
  · show nnI (va_cpy (σ 17) (σ 182) 0 0 28 (7 * s + 1 + k)) = V (6 * s + k)
    rw [hV s k hs hk, cpy_at (by omega)]
    exact (h.2.2.2.2.1 s hs).2.2.1 k hk
  · show va_cpy (σ 17) (σ 182) 0 0 28 (7 * s + 1 + k) = σ 17 (7 * s + 1 + k)
    rw [cpy_at (by omega)]
  · exact absurd hg.symm (nI_m1 (by have := h.1.1.1; omega))
end
section
/-! alike: know -/
set_option maxRecDepth 100000 in
set_option maxHeartbeats 4000000 in
theorem mg_know (L : Nat) (xs : Nat → Int32) (d : Nat) (σ : kS) (n b R S C : Nat) (kl : List Nat) (x : Int32) (Q : Option Value → kS → Prop) (h : mI σ n b R S C kl) (hU : ¬ isN x n → Q (some (.int (-1))) σ) (hS : isN x n → σ 232 52 ≠ 0 → Q (some (.int (-3))) σ) (hF : isN x n → σ 232 52 = 0 → kl.length = 20 → Q (some (.int (-4))) σ) (hO : ∀ t, t < n → x = nI t → σ 232 52 = 0 → kl.length ≠ 20 → (tgd (σ 233) (σ 234) (σ 235) t = false ∨ t ∈ kl) → Q (some (.int (-5))) σ)
    (hN : ∀ t, t < n → x = nI t → σ 232 52 = 0 → kl.length < 20 → tgd (σ 233) (σ 234) (σ 235) t = true → ¬ t ∈ kl → mI (va_up (va_up σ 254 (upd (σ 254) kl.length (nI t))) 232 (fgO (upd (σ 232) 26 (nI (kl.length + 1))))) n b R S C (kl ++ [t]) → Q (some (.int (nI (kl.length + 1)))) (va_up (va_up σ 254 (upd (σ 254) kl.length (nI t))) 232 (fgO (upd (σ 232) 26 (nI (kl.length + 1)))))) : kXM kT L xs (d + 2) 167 [.ref 232, .int x] σ Q := by
  have h0 := h
  obtain ⟨h1, h2, h3, h4, h5, h6, h7⟩ := h
  have hn := h1.1
  have hk20 := h4.2.1
  unfold kXM
  repeat refine kX_one rfl ?_
  refine kX_cal (mr_isTerm L xs d σ n x h1.2.2.2.1 (by omega)) rfl (Or.inr rfl) rfl rfl rfl (fun r1 σ1 q1 => ?_)
  obtain ⟨rfl, rfl⟩ := q1
  repeat refine kX_one rfl ?_
  refine kX_if (fun q => ?_) (fun q => ?_)
  · obtain ⟨t, ht, rfl⟩ := isB_ne.mp (qne q)
    rcases h6 with h6 | ⟨h6, -⟩
    · iterate 2 (refine kX_one rfl ?_)
      refine kX_top (h6) ?_
      repeat refine kX_one rfl ?_
      refine kX_if (fun q => ?_) (fun q => ?_)
      · have hl20 : kl.length ≠ 20 := fun e => qne q (by rw [h4.1, e]; rfl)
        have hgr : σ 237 t = bI (tgd (σ 233) (σ 234) (σ 235) t) := h1.2.2.2.2.2.2.1 t (Or.inl ht)
        have hmem : (∃ i, i < kl.length ∧ kl[i]? = some t) ↔ t ∈ kl := by
          constructor
          · rintro ⟨i, i1, i2⟩
            exact List.mem_of_getElem? i2
          · intro q
            obtain ⟨i, i1, i2⟩ := List.mem_iff_getElem.mp q
            exact ⟨i, i1, by rw [List.getElem?_eq_getElem i1, i2]⟩
        have loop : ∀ k, k ≤ kl.length → kX kT L xs (d + 2) 167 49 [(3, .int (nI k)), (2, .int (isB (tgd (σ 233) (σ 234) (σ 235) t = false ∨ ∃ i, i < k ∧ kl[i]? = some t))), (0, .ref 232), (1, .int (nI t))] [] σ Q := by
          refine kX_while (fun k : Nat => [(3, .int (nI k)), (2, .int (isB (tgd (σ 233) (σ 234) (σ 235) t = false ∨ ∃ i, i < k ∧ kl[i]? = some t))), (0, .ref 232), (1, .int (nI t))]) (fun _ => σ) _ (fun k => kl.length - k) ?_
          intro k hk ih
          iterate 3 (refine kX_one rfl ?_)
          refine kX_top (h4.1) ?_
          repeat refine kX_one rfl ?_
          refine kX_if (fun q => ?_) (fun q => ?_)
          · have q := qge q k kl.length
            repeat refine kX_one rfl ?_
            refine kX_if (fun q2 => ?_) (fun q2 => ?_)
            · obtain rfl : k = kl.length := by omega
              have hno : ¬ t ∈ kl := fun z => isB_ne.mpr (Or.inr (hmem.mpr z)) (qeq q2)
              have hg : tgd (σ 233) (σ 234) (σ 235) t = true := by
                have : ¬ (tgd (σ 233) (σ 234) (σ 235) t = false ∨ ∃ i, i < kl.length ∧ kl[i]? = some t) := fun z => isB_ne.mpr z (qeq q2)
                cases hg : tgd (σ 233) (σ 234) (σ 235) t
                · exact absurd (Or.inl hg) this
                · rfl
              repeat refine kX_one rfl ?_
              refine kX_iastN rfl rfl (by decide) (kl.length) (h4.1) (by omega) ?_
              repeat refine kX_one rfl ?_
              have e1 : σ 232 26 + 1 = nI (kl.length + 1) := by rw [h4.1]; exact (nI_succ _).symm
              refine kX_st (va_up (va_up σ 254 (upd (σ 254) kl.length (nI t))) 232 (upd (σ 232) 26 (nI (kl.length + 1)))) ?_ ?_
              · rw [← e1]
                rfl
              refine kX_cal (mr_forget L xs d _) rfl (Or.inr rfl) rfl rfl rfl (fun r1 σ1 q1 => ?_)
              obtain ⟨rfl, rfl⟩ := q1
              repeat refine kX_one rfl ?_
              refine kX_st (va_up (va_up σ 254 (upd (σ 254) kl.length (nI t))) 232 (fgO (upd (σ 232) 26 (nI (kl.length + 1))))) ?_ ?_
              · funext c; first
                  | ((repeat (refine va_case ?_ ?_; (· (intro h; first | (subst h; rfl) | (unfold va_up; repeat' split; (all_goals first | rfl | omega | (subst_vars; rfl) | (funext j; unfold upd; repeat' split; all_goals first | rfl | omega | (subst_vars; rfl)))))); intro h)); (repeat (refine va_case2 ?_ ?_; (· (intro h; first | exact absurd h (by assumption) | (subst h; rfl) | (subst h; funext j; unfold upd; repeat' split; (all_goals first | rfl | omega | (subst_vars; rfl))))); intro h)); rfl)
                  | (unfold va_up; repeat' split
                     all_goals first | rfl | omega | (subst_vars; rfl) | (funext j; unfold upd; repeat' split; all_goals first | rfl | omega | (subst_vars; rfl)))
              refine kX_ret (i := .ireturn) (len := 1) rfl (Or.inr rfl) rfl (hN t ht rfl h6 (by omega) hg hno ?_)
              refine ⟨h1, h2, h3, ⟨?_, ?_, lst_push h4.2.2.1 t, fun u hu => ?_⟩, h5, Or.inl h6, Or.inl rfl⟩
              · rw [List.length_append]; rfl
              · rw [List.length_append]; show _ + 1 ≤ 20; omega
              · rcases List.mem_append.mp hu with hu | hu
                · exact h4.2.2.2 u hu
                · rw [List.mem_singleton] at hu
                  subst hu
                  exact ⟨ht, hg⟩
            · have q2 := isB_ne.mp (qeqF q2)
              obtain rfl : k = kl.length := by omega
              repeat refine kX_one rfl ?_
              refine kX_ret (i := .ireturn) (len := 1) rfl (Or.inr rfl) rfl (hO t ht rfl h6 hl20 (q2.imp id (fun z => hmem.mp z)))
          · have q := qgeF q k kl.length
            have hgo : ∀ v : Int32, v = isB (tgd (σ 233) (σ 234) (σ 235) t = false ∨ ∃ i, i < k + 1 ∧ kl[i]? = some t) → kX kT L xs (d + 2) 167 76 [(3, .int (nI k)), (2, .int (isB (tgd (σ 233) (σ 234) (σ 235) t = false ∨ ∃ i, i < k ∧ kl[i]? = some t))), (0, .ref 232), (1, .int (nI t))] [.int v] σ Q := by
              intro v hv
              subst hv
              iterate 3 (refine kX_one rfl ?_)
              have := ih (k + 1) q (by omega)
              rw [← nI_1] at this
              exact kX_lv _ rfl rfl rfl this
            repeat refine kX_one rfl ?_
            refine kX_if (fun q2 => ?_) (fun q2 => ?_)
            · have q2 := isB_ne.mp (qne q2)
              iterate 2 (refine kX_one rfl ?_)
              exact hgo _ (isB_T (q2.elim Or.inl (fun ⟨i, hi, hi2⟩ => Or.inr ⟨i, by omega, hi2⟩))).symm
            · have q2 : ¬ (tgd (σ 233) (σ 234) (σ 235) t = false ∨ ∃ i, i < k ∧ kl[i]? = some t) := fun z => isB_ne.mpr z (qneF q2)
              repeat refine kX_one rfl ?_
              refine kX_ialdN rfl rfl (by decide) (k) (by first | rfl | decide) (by omega) ?_
              iterate 1 (refine kX_one rfl ?_)
              have hk2 : σ 254 k = nI kl[k] := h4.2.2.1 k q
              have hlt := (h4.2.2.2 kl[k] (List.getElem_mem q)).1
              repeat refine kX_one rfl ?_
              refine kX_if (fun q3 => ?_) (fun q3 => ?_)
              · have q3 : σ 254 k ≠ nI t := qne q3
                iterate 1 (refine kX_one rfl ?_)
                refine hgo _ (isB_F ?_).symm
                rintro (z | ⟨i, hi, hi2⟩)
                · exact q2 (Or.inl z)
                · by_cases e : i = k
                  · subst e
                    rw [List.getElem?_eq_getElem q] at hi2
                    rw [hk2, Option.some.inj hi2] at q3
                    exact q3 rfl
                  · exact q2 (Or.inr ⟨i, by omega, hi2⟩)
              · have q3 : σ 254 k = nI t := qneF q3
                iterate 2 (refine kX_one rfl ?_)
                refine hgo _ (isB_T (Or.inr ⟨k, by omega, ?_⟩)).symm
                rw [List.getElem?_eq_getElem q]
                exact congrArg some (nI_inj (hk2.symm.trans q3))
        have start := loop 0 (Nat.zero_le _)
        repeat refine kX_one rfl ?_
        refine kX_baldV rfl rfl (by decide) (t) (by first | rfl | decide) (by omega) (hgr) ?_
        cases hg : tgd (σ 233) (σ 234) (σ 235) t
        · rw [isB_T (Or.inl hg)] at start
          iterate 6 (refine kX_one rfl ?_)
          exact kX_lv _ rfl rfl rfl start
        · rw [isB_F (by
            rintro (z | ⟨i, z, -⟩)
            · rw [hg] at z; cases z
            · omega)] at start
          iterate 5 (refine kX_one rfl ?_)
          exact kX_lv _ rfl rfl rfl start
      · have hl20 : kl.length = 20 := by
          have := qneF q
          rw [h4.1] at this
          exact nI_inj this
        repeat refine kX_one rfl ?_
        refine kX_ret (i := .ireturn) (len := 1) rfl (Or.inr rfl) rfl (hF ⟨t, ht, rfl⟩ h6 hl20)
    · iterate 2 (refine kX_one rfl ?_)
      refine kX_top (h6) ?_
      repeat refine kX_one rfl ?_
      refine kX_ret (i := .ireturn) (len := 1) rfl (Or.inr rfl) rfl (hS ⟨t, ht, rfl⟩ (by rw [h6]; decide))
  · have q := qneF q
    repeat refine kX_one rfl ?_
    refine kX_ret (i := .ireturn) (len := 1) rfl (Or.inr rfl) rfl (hU (fun z => isB_ne.mpr z q))
set_option maxRecDepth 100000 in
set_option maxHeartbeats 4000000 in
theorem mf_isKnown (L : Nat) (xs : Nat → Int32) (d : Nat) (σ : kS) (k : Nat) (x : Int32) (hk : k ≤ 20) (h : σ 13 10 = nI k) : kXM kT L xs (d + 1) 12 [.ref 13, .int x] σ (fun r σ' => r = some (.int (isB (∃ i, i < k ∧ σ 19 i = x))) ∧ σ = σ') := by
  unfold kXM
  have loop : ∀ i : Nat, (i ≤ k ∧ ∀ j, j < i → σ 19 j ≠ x) → kX kT L xs (d + 1) 12 2 [(2, .int (nI i)), (0, .ref 13), (1, .int x)] [] σ (fun r σ' => r = some (.int (isB (∃ i, i < k ∧ σ 19 i = x))) ∧ σ = σ') := by
    refine kX_while (fun i : Nat => [(2, .int (nI i)), (0, .ref 13), (1, .int x)]) (fun _ => σ) _ (fun i => k - i) ?_
    rintro i ⟨hi, hno⟩ ih
    iterate 3 (refine kX_one rfl ?_)
    refine kX_top (h) ?_
    repeat refine kX_one rfl ?_
    refine kX_if (fun q => ?_) (fun q => ?_)
    · have q := qge q i k
      repeat refine kX_one rfl ?_
      refine kX_ret (i := .ireturn) (len := 1) rfl (Or.inr rfl) rfl (⟨rF (fun ⟨j, j1, j2⟩ => hno j (by omega) j2), rfl⟩)
    · have q := qgeF q i k
      iterate 3 (refine kX_one rfl ?_)
      refine kX_ialdN rfl rfl (by decide) (i) (by first | rfl | decide) (by omega) ?_
      iterate 1 (refine kX_one rfl ?_)
      repeat refine kX_one rfl ?_
      refine kX_if (fun q2 => ?_) (fun q2 => ?_)
      · have q2 : σ 19 i ≠ x := qne q2
        iterate 2 (refine kX_one rfl ?_)
        have := ih (i + 1) ⟨q, fun j hj => by
          by_cases e : j = i
          · subst e
            exact q2
          · exact hno j (by omega)⟩ (by omega)
        rw [← nI_1] at this
        exact kX_lv _ rfl rfl rfl this
      · have q2 : σ 19 i = x := qneF q2
        repeat refine kX_one rfl ?_
        refine kX_ret (i := .ireturn) (len := 1) rfl (Or.inr rfl) rfl (⟨rT ⟨i, q, q2⟩, rfl⟩)
  iterate 2 (refine kX_one rfl ?_)
  exact kX_lv _ rfl rfl rfl (loop 0 ⟨Nat.zero_le _, fun j hj => absurd hj (Nat.not_lt_zero j)⟩)
/-- one more is known on both sides -/
theorem bJ_kn {σ ρ τ ω : kS} {n b R S C m t : Nat} {kl : List Nat} (h : aJ σ n b R S C kl m) (hr : σ 232 52 = 0) (hf : ρ 196 5 = 0 ∧ ρ 195 9 = -1 ∧ ρ 195 10 = 0 ∧ ρ 195 11 = 0 ∧ ∀ c, c ≠ 195 → c ≠ 196 → c ≠ 201 → ρ c = σ c) (hτ : τ = va_up (va_up ρ 19 (upd (ρ 19) kl.length (nI t))) 13 (upd (ρ 13) 10 (nI (kl.length + 1)))) (hω : ω = va_up (va_up τ 254 (upd (τ 254) kl.length (nI t))) 232 (fgO (upd (τ 232) 26 (nI (kl.length + 1))))) (hJ : cJ τ n R S C) (hI : mI ω n b R S C (kl ++ [t])) : bJ m ω := by
  obtain ⟨i, j, tt, r, s, c, k, u, f, mm⟩ := h
  obtain ⟨f1, f2, f3, f4, f5⟩ := hf
  have lo : ∀ c, c < 232 → ω c = τ c := fun c hc => by rw [hω, up_ne (by omega), up_ne (by omega)]
  have eτ : ∀ c, c ≠ 13 → c ≠ 19 → τ c = ρ c := fun c c1 c2 => by rw [hτ, up_ne c1, up_ne c2]
  have el : ∀ c, c < 232 → c ≠ 13 → c ≠ 19 → c ≠ 195 → c ≠ 196 → c ≠ 201 → ω c = σ c := fun c c0 c1 c2 c3 c4 c5 => (lo c c0).trans ((eτ c c1 c2).trans (f5 c c3 c4 c5))
  have er : ∀ c, 232 < c → c ≠ 254 → ω c = σ c := fun c c1 c2 => by
    rw [hω, up_ne (by omega), up_ne c2, eτ c (by omega) (by omega), f5 c (by omega) (by omega) (by omega)]
  have hr' : ∀ l : List Nat, l.all (fun c => decide (232 < c ∧ c ≠ 254)) = true → eqC σ ω l := eqC_of (fun c q => er c q.1 q.2)
  have hl : ∀ c, c < 195 → c ≠ 13 → c ≠ 19 → ω c = σ c := fun c c0 c1 c2 => el c (by omega) c1 c2 (by omega) (by omega) (by omega)
  have e232 : τ 232 = σ 232 := (eτ 232 (by decide) (by decide)).trans (f5 232 (by decide) (by decide) (by decide))
  have e13 : ω 13 10 = nI (kl.length + 1) := by
    rw [lo 13 (by decide), hτ]
    rfl
  have ekn : ω 19 = upd (σ 19) kl.length (nI t) := by
    rw [lo _ (by decide), hτ, up_ne (by decide), up_eq, f5 _ (by decide) (by decide) (by decide)]
  have ef : ω 195 = ρ 195 ∧ ω 196 = ρ 196 := ⟨(lo _ (by decide)).trans (eτ _ (by decide) (by decide)), (lo _ (by decide)).trans (eτ _ (by decide) (by decide))⟩
  have eru : ω 232 52 = 0 := by
    rw [hω]
    show fgO (upd (τ 232) 26 (nI (kl.length + 1))) 52 = 0
    rw [e232]
    exact hr
  refine ⟨n, b, R, S, C, kl ++ [t], hI, cJ_low lo hJ, aT_c (fun c c1 c2 => hl c (by omega) (by omega) (by omega)) (hr' _ (by decide)) tt, aR_c i.1 i.2.1 (fun c c1 c2 => hl c (by omega) (by omega) (by omega)) (hr' _ (by decide)) r, aS_c i.1.1 i.2.1 i.2.2.1 (hl _ (by decide) (by decide) (by decide)) (hl _ (by decide) (by decide) (by decide)) (hl _ (by decide) (by decide) (by decide)) (hr' _ (by decide)) s, aC_c i.2.2.2.2.1 (fun c c1 c2 => hl c (by omega) (by omega) (by omega)) (hr' _ (by decide)) c, ⟨by rw [e13, List.length_append]; rfl, by rw [ekn]; exact lst_push k.2 t⟩, aU_none ?_ eru, aF_none (by rw [ef.2]; exact f1) (by rw [ef.1]; exact f3) (by rw [ef.1]; exact f4) (by rw [ef.1]; exact f2) (by rw [hω]; rfl) (by rw [hω]; rfl) (by rw [hω]; rfl) (by rw [hω]; rfl), ?_⟩
  · rw [hl 181 (by decide) (by decide) (by decide)]
    exact Classical.byContradiction (fun z => absurd hr (u.1.mp z))
  · obtain ⟨m1, m2, m3, a1, a2, a3, a4, a5, a6⟩ := mm
    exact ⟨m1, m2, m3, a1, a2, a3, kMs_eq (fun c c1 c2 => el c (by omega) (by omega) (by omega) (by omega) (by omega) (by omega)) a4, kMs_eq (fun c c1 c2 => el c (by omega) (by omega) (by omega) (by omega) (by omega) (by omega)) a5, kMs_eq (fun c c1 c2 => el c (by omega) (by omega) (by omega) (by omega) (by omega) (by omega)) a6⟩
set_option maxRecDepth 100000 in
set_option maxHeartbeats 4000000 in
theorem bo_know (L : Nat) (xs : Nat → Int32) (d d' m : Nat) (σ : kS) (x : Int32) (h : bJ m σ) : kXM kT L xs (d + 4) 117 [.ref 0, .int x] σ (fun r τ => ∃ z, r = some (.int z) ∧ kXM kT L xs (d' + 2) 167 [.ref 232, .int x] τ (fun r' ω => r' = some (.int z) ∧ bJ m ω)) := by
  have hb := h
  obtain ⟨n, b, R, S, C, kl, hA⟩ := h
  have hI := hA.1
  have h := hA.2.1
  have hT := h.1
  have hn := hT.1
  have hU := hA.2.2.2.2.2.2.2.1
  have hK := hA.2.2.2.2.2.2.1
  have hk := hI.2.2.2.1.2.1
  have hkn := hK.1
  unfold kXM
  iterate 3 (refine kX_one rfl ?_)
  refine kX_cal (mc_has L xs (d + 2) σ n x hn hT.2.1) rfl (Or.inr rfl) rfl rfl rfl (fun r1 σ1 q1 => ?_)
  obtain ⟨rfl, rfl⟩ := q1
  repeat refine kX_one rfl ?_
  refine kX_if (fun q => ?_) (fun q => ?_)
  · obtain ⟨t, ht, rfl⟩ := isB_ne.mp (qne q)
    have uni : ∀ t', t' < n → nI t = nI t' → t' = t := fun t' q q2 => (nI_inj q2).symm
    have hgd : σ 8 t = bI (tgd (σ 233) (σ 234) (σ 235) t) := by
      rw [(hA.2.2.1.1 t ht).2.2.2.2.1]
      exact hI.1.2.2.2.2.2.2.1 t (Or.inl ht)
    repeat refine kX_one rfl ?_
    refine kX_if (fun q2 => ?_) (fun q2 => ?_)
    · have hr : σ 232 52 = 0 := Classical.byContradiction (fun z => hU.1.mpr z (qeq q2))
      iterate 3 (refine kX_one rfl ?_)
      refine kX_top (hkn) ?_
      iterate 1 (refine kX_one rfl ?_)
      repeat refine kX_one rfl ?_
      refine kX_if (fun q3 => ?_) (fun q3 => ?_)
      · have q3 := qlt q3 kl.length 20
        iterate 4 (refine kX_one rfl ?_)
        refine kX_baldN rfl rfl (by decide) (t) (by first | rfl | decide) (by omega) ?_
        repeat refine kX_one rfl ?_
        refine kX_if (fun q4 => ?_) (fun q4 => ?_)
        · have q4 : tgd (σ 233) (σ 234) (σ 235) t = false := (bI_eq _).mp (hgd.symm.trans (qeq q4))
          repeat refine kX_one rfl ?_
          refine kX_ret (i := .ireturn) (len := 1) rfl (Or.inr rfl) rfl (⟨_, rfl, mg_know L xs d' σ n b R S C kl _ _ hI (fun z => absurd ⟨t, ht, rfl⟩ z) (fun _ z => absurd hr z) (fun _ _ z => by omega) (fun _ _ _ _ _ _ => ⟨rfl, hb⟩) (fun t' c1 c2 c3 c4 c5 => by rw [uni t' c1 c2, q4] at c5; cases c5)⟩)
        · have q4 : tgd (σ 233) (σ 234) (σ 235) t = true := (bI_ne _).mp (fun z => qeqF q4 (hgd.trans z))
          iterate 3 (refine kX_one rfl ?_)
          refine kX_cal (mf_isKnown L xs (d + 2) σ kl.length (nI t) hk hkn) rfl (Or.inr rfl) rfl rfl rfl (fun r1 σ1 q1 => ?_)
          obtain ⟨rfl, rfl⟩ := q1
          have hkm : (∃ i, i < kl.length ∧ σ 19 i = nI t) ↔ t ∈ kl := by
            constructor
            · rintro ⟨i, i1, i2⟩
              rw [hK.2 i i1] at i2
              have := (hI.2.2.2.1.2.2.2 kl[i] (List.getElem_mem i1)).1
              rw [← nI_inj i2]
              exact List.getElem_mem i1
            · intro q
              obtain ⟨i, i1, i2⟩ := List.mem_iff_getElem.mp q
              exact ⟨i, i1, by rw [hK.2 i i1, i2]⟩
          repeat refine kX_one rfl ?_
          refine kX_if (fun q5 => ?_) (fun q5 => ?_)
          · have hno : ¬ t ∈ kl := fun z => isB_ne.mpr (hkm.mpr z) (qeq q5)
            iterate 2 (refine kX_one rfl ?_)
            refine kX_cal (mf_forget L xs d σ) rfl (Or.inr rfl) rfl rfl rfl (fun r1 ρ q1 => ?_)
            obtain ⟨rfl, g1, g2, g4, g5, -, -, g3⟩ := q1
            have h2 := cJ_sr h g3 (cSr_0 g1 g2)
            have hkn2 : ρ 13 10 = nI kl.length := by
              rw [g3 13 (by decide) (by decide) (by decide)]
              exact hkn
            iterate 3 (refine kX_one rfl ?_)
            have hle : kXM kT L xs (d + 3) 13 [.ref 13, .int (nI t)] ρ (fun r σ' => r = some (.int (nI (kl.length + 1))) ∧ σ' = va_up (va_up ρ 19 (upd (ρ 19) kl.length (nI t))) 13 (upd (ρ 13) 10 (nI (kl.length + 1)))) := by
              unfold kXM
              iterate 2 (refine kX_one rfl ?_)
              refine kX_top (hkn2) ?_
              iterate 1 (refine kX_one rfl ?_)
              repeat refine kX_one rfl ?_
              refine kX_if (fun q5 => ?_) (fun q5 => ?_)
              · have q5 := qge q5 kl.length 20
                omega
              · iterate 4 (refine kX_one rfl ?_)
                refine kX_top (hkn2) ?_
                iterate 1 (refine kX_one rfl ?_)
                refine kX_iastN rfl rfl (by decide) (kl.length) (by first | rfl | decide) (by omega) ?_
                iterate 3 (refine kX_one rfl ?_)
                refine kX_top (hkn2) ?_
                iterate 3 (refine kX_one rfl ?_)
                refine kX_st (va_up (va_up ρ 19 (upd (ρ 19) kl.length (nI t))) 13 (upd (ρ 13) 10 (nI (kl.length + 1)))) (by rw [← nI_1]; rfl) ?_
                repeat refine kX_one rfl ?_
                refine kX_ret (i := .ireturn) (len := 1) rfl (Or.inr rfl) rfl (⟨rfl, rfl⟩)
            refine kX_cal hle rfl (Or.inr rfl) rfl rfl rfl (fun r1 τ q1 => ?_)
            obtain ⟨rfl, hτ⟩ := q1
            have hi : ∀ c, 232 ≤ c → τ c = σ c := fun c hc => by rw [hτ, up_ne (by omega), up_ne (by omega), g3 c (by omega) (by omega) (by omega)]
            have hJ2 : cJ τ n R S C := by
              rw [hτ]
              exact cJ_kn h2 (fun c c1 c2 => by rw [up_ne c1, up_ne c2]) (fun j hj => pk_un hj) ⟨kl.length + 1, q3, rfl⟩
            have eru : τ 232 52 = 0 := by rw [hi 232 (by decide)]; exact hr
            have ek : ∀ u, tgd (τ 233) (τ 234) (τ 235) u = tgd (σ 233) (σ 234) (σ 235) u := fun u => by rw [hi 233 (by decide), hi 234 (by decide), hi 235 (by decide)]
            refine kX_ret (i := .ireturn) (len := 1) rfl (Or.inr rfl) rfl (⟨_, rfl, mg_know L xs d' τ n b R S C kl _ _ (aJ_hi hA hi) (fun z => absurd ⟨t, ht, rfl⟩ z) (fun _ z => absurd eru z) (fun _ _ z => by omega) (fun t' c1 c2 c3 c4 c5 => ?_) (fun t' c1 c2 c3 c4 c5 c6 c7 => ?_)⟩)
            · rw [uni t' c1 c2, ek, q4] at c5
              rcases c5 with z | z
              · cases z
              · exact absurd z hno
            · obtain rfl := uni t' c1 c2
              exact ⟨rfl, bJ_kn hA hr ⟨g1, g2, g4, g5, g3⟩ hτ rfl hJ2 c7⟩
          · have hyes : t ∈ kl := hkm.mp (isB_ne.mp (qeqF q5))
            repeat refine kX_one rfl ?_
            refine kX_ret (i := .ireturn) (len := 1) rfl (Or.inr rfl) rfl (⟨_, rfl, mg_know L xs d' σ n b R S C kl _ _ hI (fun z => absurd ⟨t, ht, rfl⟩ z) (fun _ z => absurd hr z) (fun _ _ z => by omega) (fun _ _ _ _ _ _ => ⟨rfl, hb⟩) (fun t' c1 c2 c3 c4 c5 c6 => absurd hyes (by rw [← uni t' c1 c2]; exact c6))⟩)
      · have q3 := qltF q3 kl.length 20
        repeat refine kX_one rfl ?_
        refine kX_ret (i := .ireturn) (len := 1) rfl (Or.inr rfl) rfl (⟨_, rfl, mg_know L xs d' σ n b R S C kl _ _ hI (fun z => absurd ⟨t, ht, rfl⟩ z) (fun _ z => absurd hr z) (fun _ _ _ => ⟨rfl, hb⟩) (fun t' c1 c2 c3 c4 => by omega) (fun t' c1 c2 c3 c4 => by omega)⟩)
    · have hr : σ 232 52 ≠ 0 := hU.1.mp (qeqF q2)
      repeat refine kX_one rfl ?_
      refine kX_ret (i := .ireturn) (len := 1) rfl (Or.inr rfl) rfl (⟨_, rfl, mg_know L xs d' σ n b R S C kl _ _ hI (fun z => absurd ⟨t, ht, rfl⟩ z) (fun _ _ => ⟨rfl, hb⟩) (fun _ z => absurd z hr) (fun t' c1 c2 c3 => absurd c3 hr) (fun t' c1 c2 c3 => absurd c3 hr)⟩)
  · have q : ¬ isN x n := fun z => isB_ne.mpr z (qneF q)
    repeat refine kX_one rfl ?_
    refine kX_ret (i := .ireturn) (len := 1) rfl (Or.inr rfl) rfl (⟨_, rfl, mg_know L xs d' σ n b R S C kl _ _ hI (fun _ => ⟨rfl, hb⟩) (fun z => absurd z q) (fun z => absurd z q) (fun t' c1 c2 => absurd ⟨t', c1, c2⟩ q) (fun t' c1 c2 => absurd ⟨t', c1, c2⟩ q)⟩)
end
