/-! alike: lasting, the reference's row -/
def laP (σ : kS) (n b R S C : Nat) (kl : List Nat) (t : Nat) (r : Option Value) (σ' : kS) : Prop := (∃ z, r = some (.int z)) ∧ ((200 < n + (poT (numN σ n) (mtv σ t) []).length ∧ mFr σ σ' n ∧ mI σ' n b R S C kl) ∨ (n + (poT (numN σ n) (mtv σ t) []).length ≤ 200 ∧ mGr σ σ' n ∧ mI σ' (n + (poT (numN σ n) (mtv σ t) []).length) 200 R S C kl ∧ ∀ j (h : j < (poT (numN σ n) (mtv σ t) []).length), mtv σ' (n + j) = (poT (numN σ n) (mtv σ t) [])[j]'h))
theorem loK_tv {σ τ : kS} {n b bk k : Nat} {l : List Nat} (h : mTb σ n b) (hb : b ≤ 776) (hT : mTb τ (n + k) bk) (hG : mGr σ τ n) (hL : ∀ x ∈ l, 200 ≤ x ∧ x < b) (hll : l.length ≤ 576) (hK : loK σ τ n l k) : ∀ j (hj : j < l.length), j < k → mtv τ (n + j) = mtv σ l[j] := by
  intro j
  induction j using Nat.strongRecOn with
  | _ j ih =>
    intro hj hjk
    have hn := h.1
    obtain ⟨x1, x2⟩ := hL _ (List.getElem_mem hj)
    obtain ⟨e1, e2, e3⟩ := hK j hj hjk
    have hV := h.2.2.2.2.2.1.1
    have hV' := hT.2.2.2.2.2.1.1
    have hnum : ∀ p, p < n → mtv τ p = mtv σ p := fun p hp => tA_congr (mTb_num h) (fun u hu => ⟨(hG.2.2 u hu).1, (hG.2.2 u hu).2.1, (hG.2.2 u hu).2.2, rfl⟩) p hp
    have hpart : ∀ p w, p < 1000 → loT l n j (nI p) w → ∃ p', w = nI p' ∧ p' < n + j ∧ mtv τ p' = mtv σ p := by
      intro p w hp hq
      rcases hq with ⟨a1, a2⟩ | ⟨y, y1, y2, y3⟩ | ⟨i, i0, i1, i2, i3⟩
      · exact absurd a1 (nI_m1 (by omega))
      · obtain rfl : p = y := nI_inj y2
        exact ⟨p, y3, by omega, hnum p y1⟩
      · have hi := (hL _ (List.getElem_mem i0)).2
        have : p = l[i] := nI_inj i2
        exact ⟨n + i, i3, by omega, by rw [this]; exact ih i i1 i0 (by omega)⟩
    generalize l[j] = x at *
    rcases lo_tok h x1 x2 with ⟨kd, p, q, h3, hk, hp, hq, h4, h5, h6, h7⟩ | ⟨kd, p, h3, hk, hp, hq, h4, h6⟩
    · rw [hp] at e2
      rw [hq] at e3
      obtain ⟨p', p1, p2, p3⟩ := hpart p _ (by omega) e2
      obtain ⟨q', q1, q2, q3⟩ := hpart q _ (by omega) e3
      unfold mtv at p3 q3 ⊢
      rw [tvl_2 hV' (e1.trans hk) p1 q1 (by omega) (by omega) p2 q2 (Or.inl (by omega)) (Or.inl (by omega)), tvl_2 hV hk hp hq (by omega) (by omega) h4 h5 h6 h7, p3, q3]
    · rw [hp] at e2
      rw [hq] at e3
      obtain ⟨p', p1, p2, p3⟩ := hpart p _ (by omega) e2
      have q1 := loT_m1 e3 hn (fun x hx => by have := (hL x hx).2; omega)
      unfold mtv at p3 ⊢
      rw [tvl_1 hV' (e1.trans hk) p1 q1 (by omega) (by omega) p2 (Or.inl (by omega)), tvl_1 hV hk hp hq (by omega) (by omega) h4 h6, p3]
set_option maxRecDepth 100000 in
set_option maxHeartbeats 4000000 in
theorem mf_lasting (L : Nat) (xs : Nat → Int32) (d : Nat) (σ : kS) (n b R S C : Nat) (kl : List Nat) (t : Nat) (h : mI σ n b R S C kl) (hb : b ≤ 776) (ht : 200 ≤ t) (htb : t < b) (h24 : tsz (σ 233) (σ 234) (σ 235) t ≤ 24) : kXM kT L xs (d + 4) 203 [.ref 232, .int (nI t)] σ (laP σ n b R S C kl t) := by
  have hT := h.1
  have hn := hT.1
  unfold kXM
  iterate 2 (refine kX_one rfl ?_)
  refine kX_cal (mf_findOrder L xs (d + 1) σ n b t hT hb ht htb h24) rfl (Or.inr rfl) rfl rfl rfl (fun r1 σ1 q1 => ?_)
  obtain ⟨rfl, l, W, I, O, rfl, hl, hL, htl, hX⟩ := q1
  have hX : l.map (mtv σ) = poT (numN σ n) (mtv σ t) [] := hX
  have hPl : (poT (numN σ n) (mtv σ t) []).length = l.length := by rw [← hX, List.length_map]
  have hF0 : mFr σ (foS σ W I O (nI l.length)) n := by
    refine ⟨fun c hc => ?_, fun j hj => ?_, fun _ _ => ⟨rfl, rfl, rfl⟩⟩
    · simp only [rowC, List.mem_cons, List.not_mem_nil, or_false, not_or] at hc
      unfold foS
      rw [up_ne (by omega), up_ne (by omega), up_ne (by omega), up_ne (by omega)]
    · simp only [rowJ, List.mem_cons, List.not_mem_nil, or_false, not_or] at hj
      show upd (σ 232) 61 (nI l.length) j = _
      exact pk_un (by omega)
  have hk0 : foS σ W I O (nI l.length) 233 = σ 233 ∧ foS σ W I O (nI l.length) 234 = σ 234 ∧ foS σ W I O (nI l.length) 235 = σ 235 := ⟨rfl, rfl, rfl⟩
  have hll := foL_len hL hb
  have hI1 : mI (foS σ W I O (nI l.length)) n b R S C kl := mI_fo h
  have hL1 : foL (foS σ W I O (nI l.length)) b l := hL
  have hlow : mLow σ (foS σ W I O (nI l.length)) := fun c hc => by
    unfold foS va_up
    rw [if_neg (by omega), if_neg (by omega), if_neg (by omega), if_neg (by omega)]
  have hord : foS σ W I O (nI l.length) 232 61 = nI l.length := rfl
  have hord2 : lst (foS σ W I O (nI l.length) 279) l := hl
  have hter : foS σ W I O (nI l.length) 232 9 = nI n := hI1.1.2.2.2.1
  generalize foS σ W I O (nI l.length) = ρ at *
  have k23 : n + l.length ≤ 200 → kX kT L xs (d + 4) 203 23 [(0, .ref 232), (1, .int (nI t))] [] ρ (laP σ n b R S C kl t) := by
    intro h200
    iterate 2 (refine kX_one rfl ?_)
    have h1 := mr_lo_one L xs (d + 2) ρ n b l hI1.1 hb hord2 hord hL1 (nI t) (laP σ n b R S C kl t) (fun NK NF NS hlo => ?_) (0, ρ 281, ρ 282, ρ 283) ⟨Nat.zero_le _, fun j _ hj => absurd hj (Nat.not_lt_zero _)⟩
    · refine kX_to _ _ rfl rfl rfl ?_ h1
      funext c; unfold loS va_up; repeat' split
      all_goals first | rfl | omega | (subst_vars; rfl) | (funext j; unfold upd; repeat' split; all_goals first | rfl | omega | (subst_vars; rfl))
    · have hT3 : mTb (loS ρ NK NF NS) n b := hI1.1
      have hI3 : mI (loS ρ NK NF NS) n b R S C kl := mI_lo hI1
      have hL3 : foL (loS ρ NK NF NS) b l := hL1
      have hlo3 : loI (loS ρ NK NF NS) n l NK NF NS l.length := hlo
      have hlow3 : mLow σ (loS ρ NK NF NS) := mLow_trans hlow (fun c hc => by
        unfold loS va_up
        rw [if_neg (by omega), if_neg (by omega), if_neg (by omega)])
      have h2 := mr_lo_two L xs d (loS ρ NK NF NS) n b l hT3 hb hL3 h200 NK NF NS hlo3 (nI t) (laP σ n b R S C kl t) (fun τ g1 g2 g3 => ?_) (0, loS ρ NK NF NS) ⟨Nat.zero_le _, ⟨b, hT3⟩, ⟨fun _ _ => rfl, fun _ _ => rfl, fun _ _ => ⟨rfl, rfl, rfl⟩⟩, rfl, rfl, rfl, fun j _ hj => absurd hj (Nat.not_lt_zero _), fun hj => absurd hj (Nat.lt_irrefl _)⟩
      · iterate 2 (refine kX_one rfl ?_)
        refine kX_top (hord) ?_
        iterate 3 (refine kX_one rfl ?_)
        refine kX_top (hter) ?_
        iterate 3 (refine kX_one rfl ?_)
        exact kX_lv _ rfl rfl rfl h2
      · have hpos : 0 < l.length := List.length_pos_of_mem htl
        obtain ⟨g4, g5⟩ := g3 hpos
        repeat refine kX_one rfl ?_
        have hfin : mI τ (n + l.length) 200 R S C kl := by
          refine mI_gr hI3 g1 (by omega) (fun u u1 u2 => ?_) g4 g5
          obtain ⟨j, rfl⟩ : ∃ j, u = n + j := ⟨u - n, by omega⟩
          have hj : j < l.length := by omega
          obtain ⟨x1, x2, -⟩ := hL3.1 _ (List.getElem_mem hj)
          have := hT3.2.2.2.2.2.2.2.2.1 _ x1 x2
          rw [(g2 j hj hj).1]
          intro e
          rw [e, fN_nI (by omega)] at this
          omega
        have hGr : mGr σ τ n := by
          refine ⟨fun c hc => ?_, fun j hj => ?_, fun u hu => ?_⟩
          · rw [g1.1 c hc, ← hF0.1 c hc]
            simp only [rowC, List.mem_cons, List.not_mem_nil, or_false, not_or] at hc
            unfold loS
            rw [up_ne (by omega), up_ne (by omega), up_ne (by omega)]
          · rw [g1.2.1 j hj, ← hF0.2.1 j (fun z => hj (List.mem_cons_of_mem _ z))]
            rfl
          · have := g1.2.2 u hu
            have e1 : loS ρ NK NF NS 233 = σ 233 := hk0.1
            have e2 : loS ρ NK NF NS 234 = σ 234 := hk0.2.1
            have e3 : loS ρ NK NF NS 235 = σ 235 := hk0.2.2
            rw [e1, e2, e3] at this
            exact this
        have hK2 : loK σ τ n l l.length := by
          have e1 : loS ρ NK NF NS 233 = σ 233 := hk0.1
          have e2 : loS ρ NK NF NS 234 = σ 234 := hk0.2.1
          have e3 : loS ρ NK NF NS 235 = σ 235 := hk0.2.2
          unfold loK at g2 ⊢
          rw [e1, e2, e3] at g2
          exact g2
        refine kX_ret (i := .ireturn) (len := 1) rfl (Or.inr rfl) rfl ⟨⟨_, rfl⟩, Or.inr ⟨by rw [hPl]; exact h200, hGr, by rw [hPl]; exact hfin, fun j hj => ?_⟩⟩
        have hj' : j < l.length := by rw [← hPl]; exact hj
        rw [loK_tv hT hb g4 hGr (fun x hx => ⟨(hL.1 x hx).1, (hL.1 x hx).2.1⟩) hll hK2 j hj' hj']
        simp only [← hX, List.getElem_map]
  iterate 2 (refine kX_one rfl ?_)
  refine kX_top (hter) ?_
  iterate 2 (refine kX_one rfl ?_)
  refine kX_top (hord) ?_
  iterate 1 (refine kX_one rfl ?_)
  refine kX_top (nI_add n l.length) ?_
  iterate 1 (refine kX_one rfl ?_)
  repeat refine kX_one rfl ?_
  refine kX_if (fun q => ?_) (fun q => ?_)
  · have q := qle q (n + l.length) 200
    exact k23 q
  · have q := qleF q (n + l.length) 200
    repeat refine kX_one rfl ?_
    refine kX_ret (i := .ireturn) (len := 1) rfl (Or.inr rfl) rfl (⟨⟨_, rfl⟩, Or.inl ⟨by rw [hPl]; exact q, hF0, hI1⟩⟩)
