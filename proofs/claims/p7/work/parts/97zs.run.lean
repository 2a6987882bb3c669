/-! the class: intruder, makes, step, send -/
def inP (σ τ : kS) (n R S C : Nat) : Prop := cHi σ τ ∧ cJ τ n R S C ∧ (∃ u, nW τ 186 200 n u) ∧ (∀ c, 7 ≤ c → c ≠ 181 → c ≠ 184 → c < 186 ∨ 195 ≤ c → τ c = σ c) ∧ ∀ j, j ≠ 9 → τ 181 j = σ 181 j
set_option maxRecDepth 100000 in
set_option maxHeartbeats 4000000 in
theorem mc_intruder (L : Nat) (xs : Nat → Int32) (d : Nat) (σ : kS) (n R S C : Nat) (h : cJ σ n R S C) (hon : σ 181 8 ≠ 0) : kXM kT L xs (d + 55) 67 [.ref 181] σ (fun r σ' => r = some (.ref 186) ∧ inP σ σ' n R S C) := by
  have hT := h.1
  have hK : isK 186 200 := Or.inl ⟨rfl, rfl⟩
  have hRu := h.2.2.2.2.2.2.2.2.1
  rcases hRu with hRu | ⟨-, ⟨c, c1, c2, c3⟩, hV, hg⟩
  · exact absurd hRu hon
  · unfold kXM
    iterate 5 (refine kX_one rfl ?_)
    refine kX_top (hT.2.1) ?_
    repeat refine kX_one rfl ?_
    refine kX_if (fun q => ?_) (fun q => ?_)
    · have q : σ 181 9 = nI n := qeq q
      have hn := hT.1
      obtain ⟨g, g1, g2, g3⟩ : ∃ g, g ≤ n ∧ σ 181 9 = nI g ∧ (g = n → ∃ u, u ≤ 576 ∧ σ 186 3 = nI u ∧ cKg σ n 200 u) := by
        rcases hg with hg | hg
        · exact absurd (q.symm.trans hg) (nI_m1 (by omega))
        · exact hg
      obtain ⟨u, u1, u2, u3⟩ := g3 (nI_inj (g2.symm.trans q))
      obtain ⟨u', hB, hR, he⟩ := cKw_n hK hT h.2.2.2.2.2.1
      obtain rfl : u = u' := nI_inj (u2.symm.trans hB.2.2.2.2.2) (by omega) (by have := hB.2.2.1; omega)
      repeat refine kX_one rfl ?_
      refine kX_ret (i := .areturn) (len := 1) rfl (Or.inr rfl) rfl ⟨rfl, cHi_refl σ, h, ⟨u, hB, hR, he, u3, hT⟩, fun _ _ _ _ _ => rfl, fun _ _ => rfl⟩
    · iterate 1 (refine kX_one rfl ?_)
      refine kX_cal (mc_gather L xs d σ n R S C c h c1 c2 c3 hV) rfl (Or.inr rfl) rfl rfl rfl (fun r1 τ q1 => ?_)
      obtain ⟨rfl, hF, u, hW⟩ := q1
      have hcell : ∀ c, 7 ≤ c → c ≠ 184 → c < 186 ∨ 195 ≤ c → τ c = σ c := fun c c1 c2 c3 => by
        have := hF.1 c c3 (by omega) (by omega) (by omega) (by omega) (by omega)
        rw [up_ne c2] at this
        exact this
      iterate 4 (refine kX_one rfl ?_)
      refine kX_top (hW.2.2.2.2.2.1) ?_
      iterate 1 (refine kX_one rfl ?_)
      refine kX_st (va_up τ 181 (upd (τ 181) 9 (nI n))) rfl ?_
      have h181 : τ 181 = σ 181 := hcell 181 (by decide) (by decide) (by decide)
      have hW2 : nW (va_up τ 181 (upd (τ 181) 9 (nI n))) 186 200 n u := ⟨hW.1, hW.2.1, hW.2.2.1, hW.2.2.2.1, cT_eq rfl rfl (fun _ _ => ⟨rfl, rfl, rfl, rfl, rfl, rfl⟩) hW.2.2.2.2⟩
      have hJ : cJ (va_up τ 181 (upd (τ 181) 9 (nI n))) n R S C := by
        refine cJ_in h ⟨fun c a1 a2 a3 a4 a5 a6 => ?_, hF.2⟩ hW2 (fun j hj => ?_) (Or.inr ⟨n, Nat.le_refl _, rfl⟩)
        · by_cases e : c = 181
          · subst e
            rfl
          · have := hF.1 c a1 a2 a3 a4 a5 a6
            rw [up_ne e, up_ne e]
            exact this
        · rw [up_eq, pk_un hj, h181]
      iterate 2 (refine kX_one rfl ?_)
      refine kX_ret (i := .areturn) (len := 1) rfl (Or.inr rfl) rfl ⟨rfl, fun c hc => ?_, hJ, ⟨u, hW2⟩, fun c a1 a2 a3 a4 => ?_, fun j hj => ?_⟩
      · rw [up_ne (by omega)]
        exact hcell c (by omega) (by omega) (by omega)
      · rw [up_ne a2]
        exact hcell c a1 a3 a4
      · rw [up_eq, pk_un hj, h181]
/-- the row's methods keep all -/
theorem cJ_P {σ τ : kS} {n R S C u : Nat} (h : cJ σ n R S C) (hW : nW σ 186 200 n u) (hP : nP σ τ 186) : cJ τ n R S C := by
  have hK : isK 186 200 := Or.inl ⟨rfl, rfl⟩
  have hRu := h.2.2.2.2.2.2.2.2.1
  have e181 : τ 181 = σ 181 := hP.1 _ (by decide)
  rcases hRu with hRu | ⟨on1, cnt1, hV, hg⟩
  · obtain ⟨h1, h2, h3, h4, h5, h6, h7, h8, h9, h10, h11⟩ := h
    have := cJ_in (τ := τ) ⟨h1, h2, h3, h4, h5, h6, h7, h8, h9, h10, h11⟩ (by rw [hP.1 184 (by decide), e181, kup_self, kup_self]; exact nF_P hK hP) (nW_P hW hP) (fun j _ => by rw [e181])
    have e : ∀ c, c < 186 ∨ 195 ≤ c → τ c = σ c := hP.1
    have hgr : ∀ z, z < n → τ 8 z = σ 8 z := fun z _ => by rw [e _ (by decide)]
    have hgt : ∀ g, 200 ≤ g → τ 2 g = σ 2 g ∧ τ 3 g = σ 3 g ∧ τ 4 g = σ 4 g ∧ τ 6 g = σ 6 g := fun g _ => by
      rw [e 2 (by decide), e 3 (by decide), e 4 (by decide), e 6 (by decide)]
      exact ⟨rfl, rfl, rfl, rfl⟩
    refine ⟨(nW_P hW hP).2.2.2.2, cRo_gr (Nat.le_refl _) (fun c c1 c2 => e c (by omega)) h2, cSe_eq hgr (by rw [e 13 (by decide)]) (e _ (by decide)) (e _ (by decide)) h3, cCl_eq (by rw [e 13 (by decide)]) (fun c c1 c2 => e c (by omega)) h4, cKn_eq (by rw [e 13 (by decide)]) h5, nW_w (nW_P hW hP), cKw_eq (by decide) (e _ (by decide)) (e _ (by decide)) (e _ (by decide)) hgt h7, cKw_eq (by decide) (e _ (by decide)) (e _ (by decide)) (e _ (by decide)) hgt h8, Or.inl (by rw [e181]; exact hRu), cSr_eq hgr (by rw [e 196 (by decide)]) (e _ (by decide)) (e _ (by decide)) (e _ (by decide)) (by rw [e 195 (by decide)]) (e _ (by decide)) h10, cQ_eq (e _ (by decide)) (e _ (by decide)) h11⟩
  · refine cJ_in h (by rw [hP.1 184 (by decide), e181, kup_self, kup_self]; exact nF_P hK hP) (nW_P hW hP) (fun j _ => by rw [e181]) ?_
    rw [e181]
    rcases hg with hg | ⟨g, g1, g2, -⟩
    · exact Or.inl hg
    · exact Or.inr ⟨g, g1, g2⟩
set_option maxRecDepth 100000 in
set_option maxHeartbeats 4000000 in
theorem mk_makes (L : Nat) (xs : Nat → Int32) (d : Nat) (σ : kS) (n R S C : Nat) (x : Int32) (h : cJ σ n R S C) : kXM kT L xs (d + 56) 126 [.ref 0, .int x] σ (fun r σ' => (∃ x, r = some (.int x)) ∧ cAfter σ σ' R) := by
  have hT := h.1
  have hn := hT.1
  have hK : isK 186 200 := Or.inl ⟨rfl, rfl⟩
  unfold kXM
  iterate 3 (refine kX_one rfl ?_)
  refine kX_cal (mc_has L xs (d + 54) σ n x hn hT.2.1) rfl (Or.inr rfl) rfl rfl rfl (fun r1 σ1 q1 => ?_)
  obtain ⟨rfl, rfl⟩ := q1
  repeat refine kX_one rfl ?_
  refine kX_if (fun q => ?_) (fun q => ?_)
  · obtain ⟨t, ht, rfl⟩ := isB_ne.mp (qne q)
    repeat refine kX_one rfl ?_
    refine kX_if (fun q2 => ?_) (fun q2 => ?_)
    · have hon : σ 181 8 ≠ 0 := qne q2
      iterate 4 (refine kX_one rfl ?_)
      refine kX_baldN rfl rfl (by decide) (t) (by first | rfl | decide) (by omega) ?_
      repeat refine kX_one rfl ?_
      refine kX_if (fun q3 => ?_) (fun q3 => ?_)
      · repeat refine kX_one rfl ?_
        refine kX_ret (i := .ireturn) (len := 1) rfl (Or.inr rfl) rfl (⟨⟨_, rfl⟩, cAfter_same h⟩)
      · iterate 2 (refine kX_one rfl ?_)
        refine kX_cal (mc_intruder L xs d σ n R S C h hon) rfl (Or.inr rfl) rfl rfl rfl (fun r1 τ q1 => ?_)
        obtain ⟨rfl, i1, i2, ⟨u, i3⟩, -⟩ := q1
        iterate 2 (refine kX_one rfl ?_)
        refine kX_cal (mc_canMake L xs 186 200 n u 49 (d + 4) 0 τ (nI t) rfl i3.1 i3.2.1) rfl (Or.inr rfl) rfl rfl rfl (fun r1 ω q1 => ?_)
        obtain ⟨hq, hP⟩ := q1
        have hA : cAfter σ ω R := ⟨cHi_trans i1 (fun c hc => hP.1 c (by omega)), n, S, C, cJ_P i2 i3 hP⟩
        rcases hq with rfl | rfl
        · refine kX_cal (mc_asNumber L xs (d + 54) ω _) rfl (Or.inr rfl) rfl rfl rfl (fun r1 σ1 q1 => ?_)
          obtain ⟨rfl, rfl⟩ := q1
          repeat refine kX_one rfl ?_
          refine kX_ret (i := .ireturn) (len := 1) rfl (Or.inr rfl) rfl (⟨⟨_, rfl⟩, hA⟩)
        · refine kX_cal (mc_asNumber L xs (d + 54) ω _) rfl (Or.inr rfl) rfl rfl rfl (fun r1 σ1 q1 => ?_)
          obtain ⟨rfl, rfl⟩ := q1
          repeat refine kX_one rfl ?_
          refine kX_ret (i := .ireturn) (len := 1) rfl (Or.inr rfl) rfl (⟨⟨_, rfl⟩, hA⟩)
    · repeat refine kX_one rfl ?_
      refine kX_ret (i := .ireturn) (len := 1) rfl (Or.inr rfl) rfl (⟨⟨_, rfl⟩, cAfter_same h⟩)
  · repeat refine kX_one rfl ?_
    refine kX_ret (i := .ireturn) (len := 1) rfl (Or.inr rfl) rfl (⟨⟨_, rfl⟩, cAfter_same h⟩)
