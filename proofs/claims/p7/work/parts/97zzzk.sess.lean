/-! alike: session, the class's half -/
/-- what newSession leaves -/
def nsP (σ ω : kS) (n R S C r vc : Nat) (a b c : Int32) : Prop := ∃ n' ho, cJ ω n' R (S + 1) C ∧ nsF σ ω n n' S r vc 6 a b c ho ∧ ω (23 + 35 * r) = upd (σ (23 + 35 * r)) 6 1 ∧ ω 15 = upd (σ 15) S (nI r) ∧ ω 16 = upd (σ 16) S ho ∧ (∀ j, j < 7 * S → ω 17 j = σ 17 j) ∧ (∀ j, j ≠ 6 → ω 13 j = σ 13 j) ∧ ∀ e, 13 ≤ e → e ≠ 13 → e ≠ 17 → e ≠ 15 → e ≠ 16 → e ≠ 23 + 35 * r → ω e = σ e
set_option maxRecDepth 100000 in
set_option maxHeartbeats 4000000 in
theorem mf_newSession (L : Nat) (xs : Nat → Int32) (d : Nat) (σ : kS) (n R S C r vc : Nat) (a b c : Int32) (h : cJ σ n R S C) (hS : S < 4) (hr : r < R) (hv6 : vc ≤ 6) (hvc : σ (23 + 35 * r) 3 = nI vc) (hP : cnt (fun k => σ (24 + 35 * r) k = 0) vc ≤ 3) (ha : 1 ≤ cnt (fun k => σ (24 + 35 * r) k = 0) vc → gV σ n a) (hb : 2 ≤ cnt (fun k => σ (24 + 35 * r) k = 0) vc → gV σ n b) (hc : 3 ≤ cnt (fun k => σ (24 + 35 * r) k = 0) vc → gV σ n c) (hM : mRo σ n R) (hAr : aR σ R) (hAt : aT σ n) (hn200 : n + hma σ r 1 vc ≤ 200) (hga : ∀ i, i < hma σ r 0 vc → ∃ z, z < n ∧ (if i = 0 then a else if i = 1 then b else c) = nI z ∧ σ 233 z = nI 0) (hon : σ 181 8 = 0) (hw : σ 196 5 = 0) (hl : σ 195 9 = -1) :
    kXM kT L xs (d + 5) 14 [.ref 13, .int (nI r), .int a, .int b, .int c] σ (fun q σ' => q = some (.int (nI S)) ∧ nsP σ σ' n R S C r vc a b c) := by
  have hR := h.2.1
  have hR4 := hR.1
  have hr4 : r < 4 := by omega
  have hSe := h.2.2.1
  obtain ⟨vc', ev, v1, e1, v2, e2, so1, ev1⟩ := hR.2.2 r hr
  obtain rfl : vc = vc' := nI_inj (hvc.symm.trans v2)
  unfold kXM
  iterate 2 (refine kX_one rfl ?_)
  refine kX_top (hSe.2.1) ?_
  iterate 1 (refine kX_one rfl ?_)
  repeat refine kX_one rfl ?_
  refine kX_if (fun q => ?_) (fun q => ?_)
  · have q := qge q S 4
    omega
  · iterate 2 (refine kX_one rfl ?_)
    refine kX_cal (mc_hasRole L xs (d + 3) σ R (nI r) hR4 hR.2.1) rfl (Or.inr rfl) rfl rfl rfl (fun r1 σ1 q1 => ?_)
    obtain ⟨rfl, rfl⟩ := q1
    repeat refine kX_one rfl ?_
    refine kX_ifT (by rw [isB_T ⟨r, hr, rfl⟩]; rfl) ?_
    iterate 3 (refine kX_one rfl ?_)
    refine kX_aaldN rfl (rfl) (by decide) (by decide) (by decide) (r) (by first | rfl | decide) (hr4) (ro_at hr4) ?_
    iterate 3 (refine kX_one rfl ?_)
    refine kX_top (hSe.2.1) ?_
    iterate 2 (refine kX_one rfl ?_)
    refine kX_top (y := nI (S * 7)) (by show nI S * nI 7 = _; rw [pk_mul]) ?_
    iterate 9 (refine kX_one rfl ?_)
    refine kX_iastN rfl rfl (by decide) (S * 7) (by first | rfl | decide) (by omega) ?_
    iterate 2 (refine kX_one rfl ?_)
    have hl := mf_nsLoop L xs d σ n R S C r vc a b c h hS hr hv6 hvc so1 hP ha hb hc hM hAr hAt hn200 hga (fun q σ' => q = some (.int (nI S)) ∧ nsP σ σ' n R S C r vc a b c) (fun τ n' ho hho hI hNF => ?_) (0, va_up σ 17 (upd (σ 17) (S * 7) 0), n, 1) ⟨Nat.zero_le _, Or.inr rfl, ⟨Nat.le_refl _, ?_, ?_, fun j hj => ?_, fun k hk => absurd hk (Nat.not_lt_zero k)⟩, ?_⟩
    · dsimp only at hl
      rw [show min 0 vc = 0 by omega] at hl
      exact kX_lv _ rfl rfl rfl hl
    · have e0 : τ (23 + 35 * r) = σ (23 + 35 * r) := nsI_c hI (fun q => by have := tC_lt q; omega) (by omega)
      have e13 : τ 13 = σ 13 := nsI_c hI (by decide) (by decide)
      have hT := hI.2.1
      have hG := hI.2.2.1
      have h13 : ∀ j, va_up τ (23 + 35 * r) (upd (τ (23 + 35 * r)) 6 (Int32.ofInt 1)) 13 j = σ 13 j := fun j => by rw [up_ne (by omega), e13]
      iterate 2 (refine kX_one rfl ?_)
      refine kX_putN rfl rfl (kT_ro hr4) rfl (rfl) rfl ?_
      have hx0 : va_up τ (23 + 35 * r) (upd (τ (23 + 35 * r)) 6 (Int32.ofInt 1)) (23 + 35 * r) = upd (σ (23 + 35 * r)) 6 (Int32.ofInt 1) := by rw [up_eq, e0]
      have hx1 : ∀ c, c ≠ 23 + 35 * r → va_up τ (23 + 35 * r) (upd (τ (23 + 35 * r)) 6 (Int32.ofInt 1)) c = τ c := fun c hc => up_ne hc
      generalize va_up τ (23 + 35 * r) (upd (τ (23 + 35 * r)) 6 (Int32.ofInt 1)) = ρ at *
      iterate 4 (refine kX_one rfl ?_)
      refine kX_top (y := nI S) (by rw [h13]; exact hSe.2.1) ?_
      iterate 1 (refine kX_one rfl ?_)
      refine kX_iastN rfl rfl (by decide) (S) (by first | rfl | decide) (hS) ?_
      iterate 4 (refine kX_one rfl ?_)
      refine kX_top (y := nI S) ((h13 6).trans hSe.2.1) ?_
      iterate 1 (refine kX_one rfl ?_)
      refine kX_bastN rfl rfl (by decide) (S) (by first | rfl | decide) (hS) (hho) ?_
      iterate 3 (refine kX_one rfl ?_)
      refine kX_top (y := nI S) ((h13 6).trans hSe.2.1) ?_
      iterate 3 (refine kX_one rfl ?_)
      refine kX_st (va_up (va_up (va_up ρ 15 (upd (ρ 15) S (nI r))) 16 (upd (ρ 16) S ho)) 13 (upd (ρ 13) 6 (nI (S + 1)))) (by rw [← nI_1]; rfl) ?_
      repeat refine kX_one rfl ?_
      have hall : ∀ e, e ≠ 13 → e ≠ 15 → e ≠ 16 → e ≠ 23 + 35 * r → va_up (va_up (va_up ρ 15 (upd (ρ 15) S (nI r))) 16 (upd (ρ 16) S ho)) 13 (upd (ρ 13) 6 (nI (S + 1))) e = τ e := fun e x1 x2 x3 x4 => by
        rw [up_ne x1, up_ne x3, up_ne x2, hx1 e x4]
      have hhi : ∀ e, 163 ≤ e → va_up (va_up (va_up ρ 15 (upd (ρ 15) S (nI r))) 16 (upd (ρ 16) S ho)) 13 (upd (ρ 13) 6 (nI (S + 1))) e = σ e := fun e he => by
        rw [hall e (by omega) (by omega) (by omega) (by omega)]
        exact nsI_c hI (fun q => by have := tC_lt q; omega) (by omega)
      have hlo : ∀ e, e < 13 → va_up (va_up (va_up ρ 15 (upd (ρ 15) S (nI r))) 16 (upd (ρ 16) S ho)) 13 (upd (ρ 13) 6 (nI (S + 1))) e = τ e := fun e he => hall e (by omega) (by omega) (by omega) (by omega)
      have h13' : ∀ j, j ≠ 6 → va_up (va_up (va_up ρ 15 (upd (ρ 15) S (nI r))) 16 (upd (ρ 16) S ho)) 13 (upd (ρ 13) 6 (nI (S + 1))) 13 j = σ 13 j := fun j hj => by
        rw [up_eq, pk_un hj]
        exact h13 j
      have hsc : va_up (va_up (va_up ρ 15 (upd (ρ 15) S (nI r))) 16 (upd (ρ 16) S ho)) 13 (upd (ρ 13) 6 (nI (S + 1))) 13 6 = nI (S + 1) := rfl
      have hsr : va_up (va_up (va_up ρ 15 (upd (ρ 15) S (nI r))) 16 (upd (ρ 16) S ho)) 13 (upd (ρ 13) 6 (nI (S + 1))) 15 = upd (σ 15) S (nI r) := by
        rw [up_ne (by decide), up_ne (by decide), up_eq, hx1 _ (by omega), nsI_c hI (by decide) (by decide)]
      have hsh : va_up (va_up (va_up ρ 15 (upd (ρ 15) S (nI r))) 16 (upd (ρ 16) S ho)) 13 (upd (ρ 13) 6 (nI (S + 1))) 16 = upd (σ 16) S ho := by
        rw [up_ne (by decide), up_eq, hx1 _ (by omega), nsI_c hI (by decide) (by decide)]
      have hro : va_up (va_up (va_up ρ 15 (upd (ρ 15) S (nI r))) 16 (upd (ρ 16) S ho)) 13 (upd (ρ 13) 6 (nI (S + 1))) (23 + 35 * r) = upd (σ (23 + 35 * r)) 6 (Int32.ofInt 1) := by
        rw [up_ne (by omega), up_ne (by omega), up_ne (by omega), hx0]
      generalize va_up (va_up (va_up ρ 15 (upd (ρ 15) S (nI r))) 16 (upd (ρ 16) S ho)) 13 (upd (ρ 13) 6 (nI (S + 1))) = ω at *
      have hgs : ∀ z, z < n → ω 8 z = σ 8 z := fun z hz => by
        rw [hlo _ (by decide)]
        exact hG.2.1 z hz
      have hgt : ∀ g, 200 ≤ g → ω 2 g = σ 2 g ∧ ω 3 g = σ 3 g ∧ ω 4 g = σ 4 g ∧ ω 6 g = σ 6 g := fun g hg => by
        rw [hlo 2 (by decide), hlo 3 (by decide), hlo 4 (by decide), hlo 6 (by decide)]
        exact hG.2.2 g hg
      obtain ⟨g1, g2, g3, g4, g5, g6, g7, g8, g9, g10, g11⟩ := h
      have hmid : ∀ e, 17 < e → e ≠ 23 + 35 * r → ω e = σ e := fun e x1 x2 => by
        rw [hall e (by omega) (by omega) (by omega) x2]
        exact nsI_c hI (fun q => by have := tC_lt q; omega) (by omega)
      have e17 : ω 17 = τ 17 := hall _ (by decide) (by decide) (by decide) (by omega)
      refine kX_ret (i := .ireturn) (len := 1) rfl (Or.inr rfl) rfl ⟨?_, n', ho, ⟨cT_eq (by rw [hlo 1 (by decide)]) (hlo _ (by decide)) (fun u _ => ?_) hT, ⟨g2.1, (h13' _ (by decide)).trans g2.2.1, fun r' hr' => ?_⟩, ⟨by omega, hsc, fun s hs => ?_, fun s k hs hk => ?_⟩, cCl_eq (h13' _ (by decide)) (fun e x1 x2 => hhi e (by omega)) g4, cKn_eq (h13' _ (by decide)) g5, cKw_eq (by decide) (hhi _ (by decide)) (hhi _ (by decide)) (hhi _ (by decide)) hgt g6, cKw_eq (by decide) (hhi _ (by decide)) (hhi _ (by decide)) (hhi _ (by decide)) hgt g7, cKw_eq (by decide) (hhi _ (by decide)) (hhi _ (by decide)) (hhi _ (by decide)) hgt g8, Or.inl ?_, cSr_0 ?_ ?_, cQ_eq (hhi _ (by decide)) (hhi _ (by decide)) g11⟩, ?_, hro, hsr, hsh, fun j hj => by rw [e17]; exact hI.2.2.2.1 j hj, fun j hj => h13' j hj, fun e x0 x1 x2 x3 x4 x5 => ?_⟩
      · show some (Value.int (ω 13 6 - 1)) = _
        rw [hsc, nI_pred S]
      · rw [hlo 2 (by decide), hlo 3 (by decide), hlo 4 (by decide), hlo 8 (by decide), hlo 12 (by decide), hlo 6 (by decide)]
        exact ⟨rfl, rfl, rfl, rfl, rfl, rfl⟩
      · obtain ⟨v', ev', a1, a2, a3, a4, a5, a6⟩ := g2.2.2 r' hr'
        refine ⟨v', ev', a1, a2, ?_, ?_, ?_, fun k hk => cE_up hI.1 (fun i hi => hmid _ (by omega) (by omega)) (a6 k hk)⟩
        · by_cases e : r' = r
          · subst e
            rw [hro]
            exact a3
          · rw [hmid _ (by omega) (by omega)]
            exact a3
        · by_cases e : r' = r
          · subst e
            rw [hro]
            exact a4
          · rw [hmid _ (by omega) (by omega)]
            exact a4
        · rw [hmid (25 + 35 * r') (by omega) (by omega), hmid (24 + 35 * r') (by omega) (by omega)]
          exact a5
      · rw [hsr]
        by_cases e : s = S
        · subst e
          exact ⟨r, hr, pk_us⟩
        · rw [pk_un e]
          exact g3.2.2.1 s (by omega)
      · rw [e17]
        have egr : ∀ z, ω 8 z = τ 8 z := fun z => by rw [hlo _ (by decide)]
        by_cases e : s = S
        · subst e
          have := hI.2.2.2.2 k hk
          rw [show 0 + 7 * s + 1 + k = 7 * s + 1 + k by omega]
          rcases this with q | ⟨z, z1, z2, z3⟩
          · exact Or.inl q
          · exact Or.inr ⟨z, z1, z2, (egr z).trans z3⟩
        · rw [hI.2.2.2.1 _ (by omega)]
          rcases g3.2.2.2 s k (by omega) hk with q | ⟨z, z1, z2, z3⟩
          · exact Or.inl q
          · have := hI.1
            exact Or.inr ⟨z, by omega, z2, (hgs z z1).trans z3⟩
      · rw [hhi 181 (by decide)]
        exact hon
      · rw [hhi 196 (by decide)]
        exact hw
      · rw [hhi 195 (by decide)]
        exact hl
      · unfold nsF cCn cpt at hNF ⊢
        rw [hlo 2 (by decide), hlo 3 (by decide), hlo 4 (by decide), hlo 5 (by decide), hlo 8 (by decide), hlo 9 (by decide), hlo 10 (by decide), hlo 11 (by decide), hlo 12 (by decide), hlo 7 (by decide), hlo 6 (by decide), e17]
        exact hNF
      · rw [hall e x1 x3 x4 x5]
        exact nsI_c hI (fun q => by have := tC_lt q; omega) x2
    · exact cT_eq rfl rfl (fun u _ => ⟨rfl, rfl, rfl, rfl, rfl, rfl⟩) h.1
    · simp only
      have : va_up (va_up σ 17 (upd (σ 17) (S * 7) 0)) 17 (σ 17) = σ := by
        rw [kup_up, kup_self]
      rw [this]
      exact cGr_refl σ n
    · simp only
      rw [up_eq, pk_un (by omega)]
    · dsimp only
      refine ⟨?_, fun t ht => ⟨rfl, rfl, rfl, rfl, rfl, rfl, rfl, rfl, rfl⟩, fun t t1 t2 => by omega, fun k hk => by omega, ?_, ?_, fun k hk => absurd hk (Nat.not_lt_zero k), ⟨fun _ k hk => absurd hk (Nat.not_lt_zero k), fun _ => by decide⟩⟩
      · rw [show min 0 vc = 0 by omega]
        rfl
      · have := hAt.2
        unfold cCn cpt at this ⊢
        exact this
      · show upd (σ 17) (S * 7) 0 (7 * S) = 0
        rw [Nat.mul_comm S 7]
        exact pk_us
