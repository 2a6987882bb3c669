/-! alike: CLAIMS -/
set_option maxRecDepth 100000 in
set_option maxHeartbeats 4000000 in
theorem mf_newClaim (L : Nat) (xs : Nat → Int32) (d : Nat) (σ : kS) (n R S C : Nat) (b x y z : Int32) (hb : b = 0 ∨ (b = 1 ∧ ∃ v, v < 6 ∧ z = nI v)) (h : cJ σ n R S C) (hC : C < 6) : kXM kT L xs (d + 1) 15 [.ref 13, .int b, .int x, .int y, .int z] σ (fun r σ' => r = some (.int (nI C)) ∧ cJ σ' n R S (C + 1) ∧ (∀ c, c ≠ 13 → c ≠ 163 + 3 * C → σ' c = σ c) ∧ (∀ j, j ≠ 8 → σ' 13 j = σ 13 j) ∧ σ' (163 + 3 * C) = upd (upd (upd (upd (upd (σ (163 + 3 * C)) 0 b) 1 x) 2 y) 3 z) 6 0) := by
  have hc := h.2.2.2.1
  unfold kXM
  iterate 2 (refine kX_one rfl ?_)
  refine kX_top (hc.2.1) ?_
  iterate 1 (refine kX_one rfl ?_)
  repeat refine kX_one rfl ?_
  refine kX_if (fun q => ?_) (fun q => ?_)
  · iterate 4 (refine kX_one rfl ?_)
    refine kX_top (hc.2.1) ?_
    refine kX_aaldN rfl (rfl) (by decide) (by decide) (by decide) (C) (by first | rfl | decide) (hC) (cl_at hC) ?_
    iterate 3 (refine kX_one rfl ?_)
    refine kX_putN rfl rfl (kT_cl hC) rfl (by rcases hb with rfl | ⟨rfl, -⟩ <;> rfl) rfl ?_
    iterate 2 (refine kX_one rfl ?_)
    refine kX_putN rfl rfl (kT_cl hC) rfl (rfl) rfl ?_
    iterate 2 (refine kX_one rfl ?_)
    refine kX_putN rfl rfl (kT_cl hC) rfl (rfl) rfl ?_
    iterate 2 (refine kX_one rfl ?_)
    refine kX_putN rfl rfl (kT_cl hC) rfl (rfl) rfl ?_
    iterate 2 (refine kX_one rfl ?_)
    refine kX_putN rfl rfl (kT_cl hC) rfl (rfl) rfl ?_
    refine kX_st (va_up σ (163 + 3 * C) (upd (upd (upd (upd (upd (σ (163 + 3 * C)) 0 b) 1 x) 2 y) 3 z) 6 0)) ?_ ?_
    · rw [kup_up, kup_up, kup_up, kup_up]
      simp only [up_eq]
      rfl
    have h13 : va_up σ (163 + 3 * C) (upd (upd (upd (upd (upd (σ (163 + 3 * C)) 0 b) 1 x) 2 y) 3 z) 6 0) 13 = σ 13 := up_ne (by omega)
    have hC0 : va_up σ (163 + 3 * C) (upd (upd (upd (upd (upd (σ (163 + 3 * C)) 0 b) 1 x) 2 y) 3 z) 6 0) (163 + 3 * C) = upd (upd (upd (upd (upd (σ (163 + 3 * C)) 0 b) 1 x) 2 y) 3 z) 6 0 := up_eq
    have hoth : ∀ c, c ≠ 163 + 3 * C → va_up σ (163 + 3 * C) (upd (upd (upd (upd (upd (σ (163 + 3 * C)) 0 b) 1 x) 2 y) 3 z) 6 0) c = σ c := fun c hc => up_ne hc
    generalize va_up σ (163 + 3 * C) (upd (upd (upd (upd (upd (σ (163 + 3 * C)) 0 b) 1 x) 2 y) 3 z) 6 0) = ρ at *
    iterate 3 (refine kX_one rfl ?_)
    refine kX_top (y := nI C) (by rw [h13]; exact hc.2.1) ?_
    iterate 3 (refine kX_one rfl ?_)
    refine kX_st (va_up ρ 13 (upd (ρ 13) 8 (nI (C + 1)))) (by rw [← nI_1]; rfl) ?_
    repeat refine kX_one rfl ?_
    refine kX_ret (i := .ireturn) (len := 1) rfl (Or.inr rfl) rfl ⟨?_, cJ_cl h (fun c c1 c2 => ?_) (fun j hj => ?_) ⟨by omega, rfl, fun c hc' => ?_⟩, fun c c1 c2 => by rw [up_ne c1, hoth c c2], fun j hj => ?_, by rw [up_ne (by omega), hC0]⟩
    · show some (Value.int (nI (C + 1) - 1)) = _
      rw [← nI_1, Int32.add_sub_cancel]
    · rw [up_ne c1, hoth c (by omega)]
    · show upd (ρ 13) 8 (nI (C + 1)) j = _
      rw [pk_un hj, h13]
    · rw [up_ne (by omega), up_ne (by omega), up_ne (by omega)]
      by_cases e : c = C
      · subst e
        rw [hC0]
        refine ⟨fun hs => ?_, 0, by omega, rfl, fun i hi => absurd hi (Nat.not_lt_zero i)⟩
        rcases hb with rfl | ⟨rfl, v, v1, v2⟩
        · exact absurd rfl hs
        · exact ⟨v, v1, v2⟩
      · rw [hoth _ (by omega), hoth _ (by omega), hoth _ (by omega)]
        exact hc.2.2 c (by omega)
    · show upd (ρ 13) 8 (nI (C + 1)) j = _
      rw [pk_un hj, h13]
  · have q := qltF q C 6
    omega
/-- a CLAIM more on both sides -/
theorem bJ_cl {σ τ : kS} {n b R S C m p a nn : Nat} {kl : List Nat} {y : Int32} {x0 y0 z0 : Int32} (h : aJ σ n b R S C kl m) (hC : C < 6) (hJ : cJ τ n R S (C + 1)) (e : ∀ c, c ≠ 13 → c ≠ 163 + 3 * C → τ c = σ c) (e13 : ∀ j, j ≠ 8 → τ 13 j = σ 13 j) (eC : τ (163 + 3 * C) = upd (upd (upd (upd (upd (σ (163 + 3 * C)) 0 y) 1 x0) 2 y0) 3 z0) 6 0) (hI : mI (clS τ C y (nI p) (nI a) (nI nn)) n b R S (C + 1) kl) (f1 : x0 = nI p) (f2 : y ≠ 0 → z0 = nI a) (f3 : y = 0 → y0 = nI a ∧ z0 = nI nn) : bJ m (clS τ C y (nI p) (nI a) (nI nn)) := by
  obtain ⟨i, j, t, r, s, c, k, u, f, mm⟩ := h
  have lo : ∀ c, c < 232 → clS τ C y (nI p) (nI a) (nI nn) c = τ c := fun c hc => by
    simp only [clS, va_up]
    repeat rw [if_neg (by omega)]
  have hT : ∀ c, 1 ≤ c → c < 13 → clS τ C y (nI p) (nI a) (nI nn) c = σ c := fun c c1 c2 => (lo c (by omega)).trans (e c (by omega) (by omega))
  have hB : ∀ c, 13 < c → c < 163 → clS τ C y (nI p) (nI a) (nI nn) c = σ c := fun c c1 c2 => (lo c (by omega)).trans (e c (by omega) (by omega))
  have hH : ∀ c, 181 ≤ c → c < 232 → clS τ C y (nI p) (nI a) (nI nn) c = σ c := fun c c1 c2 => (lo c (by omega)).trans (e c (by omega) (by omega))
  have hr : ∀ c, 232 < c → c ≠ 257 → c ≠ 258 → c ≠ 259 → c ≠ 260 → c ≠ 261 → clS τ C y (nI p) (nI a) (nI nn) c = σ c := fun c c1 c2 c3 c4 c5 c6 => by
    simp only [clS, va_up]
    rw [if_neg (by omega), if_neg c6, if_neg c5, if_neg c4, if_neg c3, if_neg c2]
    exact e c (by omega) (by omega)
  have hq : ∀ l : List Nat, l.all (fun c => decide (232 < c ∧ c ≠ 257 ∧ c ≠ 258 ∧ c ≠ 259 ∧ c ≠ 260 ∧ c ≠ 261)) = true → eqC σ (clS τ C y (nI p) (nI a) (nI nn)) l := fun l hl c hc => by
    have := of_decide_eq_true (List.all_eq_true.mp hl c hc)
    exact hr c this.1 this.2.1 this.2.2.1 this.2.2.2.1 this.2.2.2.2.1 this.2.2.2.2.2
  have h232 : ∀ j, j ≠ 30 → clS τ C y (nI p) (nI a) (nI nn) 232 j = σ 232 j := fun j hj => by
    show upd (τ 232) 30 (nI (C + 1)) j = _
    rw [pk_un hj, e 232 (by decide) (by omega)]
  refine ⟨n, b, R, S, C + 1, kl, hI, cJ_low lo hJ, aT_c hT (hq _ (by decide)) t, aR_c i.1 i.2.1 (fun c c1 c2 => hB c (by omega) c2) (hq _ (by decide)) r, aS_c i.1.1 i.2.1 i.2.2.1 (hB _ (by decide) (by decide)) (hB _ (by decide) (by decide)) (hB _ (by decide) (by decide)) (hq _ (by decide)) s, fun c' hc' => ?_, aK_eq ?_ (hB _ (by decide) (by decide)) k, aU_c hT (fun c c1 c2 => hH c c1 (by omega)) (hB _ (by decide) (by decide)) (hq _ (by decide)) (h232 _ (by decide)) (h232 _ (by decide)) u, aF_c i.1 i.2.1 i.2.2.1 (fun c c1 c2 => hB c (by omega) c2) (hq _ (by decide)) (hH _ (by decide) (by decide)) (hH _ (by decide) (by decide)) (hH _ (by decide) (by decide)) (hH _ (by decide) (by decide)) ⟨h232 _ (by decide), h232 _ (by decide), h232 _ (by decide), h232 _ (by decide)⟩ (hq _ (by decide)) f, aM_eq (Nat.le_refl _) (fun c c1 c2 => hH c (by omega) (by omega)) mm⟩
  · by_cases e0 : c' = C
    · subst e0
      unfold aC1
      rw [lo _ (by omega), eC]
      refine ⟨?_, ?_, fun q => ?_, fun q => ?_, ?_, fun i hi => ?_⟩
      · show y ≠ 0 ↔ upd (τ 257) c' y c' ≠ 0
        rw [pk_us]
      · show x0 = upd (τ 258) c' (nI p) c'
        rw [pk_us, f1]
      · have q : upd (τ 257) c' y c' ≠ 0 := q
        rw [pk_us] at q
        show z0 = upd (τ 259) c' (nI a) c'
        rw [pk_us]
        exact f2 q
      · have q : upd (τ 257) c' y c' = 0 := q
        rw [pk_us] at q
        show y0 = upd (τ 259) c' (nI a) c' ∧ z0 = upd (τ 260) c' (nI nn) c'
        rw [pk_us, pk_us]
        exact f3 q
      · show (0 : Int32) = upd (τ 261) c' 0 c'
        rw [pk_us]
      · have hi : i < fN (upd (τ 261) c' 0 c') := hi
        rw [pk_us] at hi
        exact absurd hi (Nat.not_lt_zero i)
    · have hlt : c' < C := by omega
      have ec : ∀ c, 232 ≤ c → τ c = σ c := fun c hc => e c (by omega) (by omega)
      refine fC_aC1 i.2.2.2.2.1 hlt ⟨?_, ?_, ?_, ?_, ?_, fun i _ => ⟨?_, ?_⟩, fun j hj => (lo _ (by omega)).trans (e _ (by omega) (by omega))⟩ (c c' hlt)
      · show upd (τ 257) C y c' = _
        rw [pk_un e0, ec _ (by decide)]
      · show upd (τ 258) C (nI p) c' = _
        rw [pk_un e0, ec _ (by decide)]
      · show upd (τ 259) C (nI a) c' = _
        rw [pk_un e0, ec _ (by decide)]
      · show upd (τ 260) C (nI nn) c' = _
        rw [pk_un e0, ec _ (by decide)]
      · show upd (τ 261) C 0 c' = _
        rw [pk_un e0, ec _ (by decide)]
      · show τ 262 _ = _
        rw [ec _ (by decide)]
      · show τ 263 _ = _
        rw [ec _ (by decide)]
  · rw [lo 13 (by decide)]
    exact e13 _ (by decide)
