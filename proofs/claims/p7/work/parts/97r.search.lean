/-! the reference: search, all of it -/
/-- what is kept -/
def seQ (σ : kS) (KD KV : Nat → Int32) : kS := va_up (va_up (va_up σ 290 KD) 291 KV) 232 (fgO (σ 232))
theorem se_after {σ τ : kS} {n b b' R S C : Nat} {kl : List Nat} {KD KV RD RV AS AT : Nat → Int32} {x : Int32} (h : mI σ n b R S C kl) (hF : mSf (seQ σ KD KV) τ n) (hT : mTb τ n b') (hA : mAk (naS τ AS AT x) n R S) (hd : ∀ j, j < 4 → RD j = σ 264 j) (hv : ∀ j, j < 24 → RV j = σ 265 j) : mAfter σ (va_up (va_up (va_up (naS τ AS AT x) 264 RD) 265 RV) 232 (upd (naS τ AS AT x 232) 47 0)) R := by
  obtain ⟨h1, h2, h3, h4, h5, h6, h7⟩ := h
  have hT0 : mTb (seQ σ KD KV) n b := h1
  have hB0 : mBs (seQ σ KD KV) n R S C kl := ⟨h2, h3, h4, h5⟩
  have hB := mBs_sf hT0 hF hB0
  refine ⟨fun c hc => ?_, n, b', S, C, kl, hT, hB.1, hB.2.1, hB.2.2.1, hB.2.2.2, ?_, hA⟩
  · have e1 : τ c = seQ σ KD KV c := hF.1 c (fun q => by
      simp only [rowC, List.mem_cons, List.not_mem_nil, or_false] at q
      omega) (fun q => by
      simp only [srX, List.mem_cons, List.not_mem_nil, or_false] at q
      omega)
    have e2 : seQ σ KD KV c = σ c := by
      unfold seQ va_up
      rw [if_neg (by omega), if_neg (by omega), if_neg (by omega)]
    rw [← e2, ← e1]
    unfold naS va_up
    rw [if_neg (by omega), if_neg (by omega), if_neg (by omega), if_neg (by omega), if_neg (by omega), if_neg (by omega)]
  · have er : τ 232 52 = σ 232 52 := hF.2.1 52 (by decide) (by decide)
    rcases h6 with h6 | ⟨h6, ds, g1, g2, g3⟩
    · exact Or.inl (er.trans h6)
    · have hS0 : mRn (seQ σ KD KV) n R S ds := g1
      have hB0 : mBi (seQ σ KD KV) ds := g2
      have hR0 : mRo (seQ σ KD KV) n R := h2
      have hB1 := mFr_Bi (τ := pat (seQ σ KD KV) τ) hT0 hR0 (pat_fr hF) hS0 hB0
      have hrn := se_Rn (τ := τ) (RD := RD) (RV := RV) hT0 hR0 hF h3.1 hS0 hT hd hv
      exact Or.inr ⟨er.trans h6, ds, hrn, hB1, Or.inl rfl⟩
set_option maxRecDepth 100000 in
set_option maxHeartbeats 4000000 in
theorem mp_search (L : Nat) (xs : Nat → Int32) (d : Nat) (σ : kS) (n b R S C : Nat) (kl : List Nat) (h : mI σ n b R S C kl) : kXM kT L xs (d + 11) 220 [.ref 232] σ (fun r σ' => (∃ x, r = some (.int x)) ∧ mAfter σ σ' R) := by
  have h0 := h
  obtain ⟨h1, h2, h3, h4, h5, h6, h7⟩ := h
  have hS4 := h3.1
  unfold kXM
  have k51 : ∀ KD KV, (∀ j, j < 4 → KD j = σ 264 j) → (∀ j, j < 24 → KV j = σ 265 j) → kX kT L xs (d + 11) 220 51 [(0, .ref 232)] [] (va_up (va_up σ 290 KD) 291 KV) (fun r σ' => (∃ x, r = some (.int x)) ∧ mAfter σ σ' R) := by
    intro KD KV hKD hKV
    have hT0 : mTb (seQ σ KD KV) n b := h1
    have hB0 : mBs (seQ σ KD KV) n R S C kl := ⟨h2, h3, h4, h5⟩
    have hat0 : seQ σ KD KV 232 72 = -6 := rfl
    have k94 : ∀ v τ, (∃ N', ceR C N' (some (.int v)) ∧ mSf (seQ σ KD KV) τ n ∧ (∃ b, mTb τ n b) ∧ mSs τ n R S N') → kX kT L xs (d + 11) 220 94 [(0, .ref 232), (1, .int v)] [] τ (fun r σ' => (∃ x, r = some (.int x)) ∧ mAfter σ σ' R) := by
      rintro v τ ⟨N', hr, hF, ⟨b', hT⟩, hS⟩
      have hkd : τ 290 = KD := hF.1 _ (by decide) (by decide)
      have hkv : τ 291 = KV := hF.1 _ (by decide) (by decide)
      have hat : τ 232 72 = -6 := (hF.2.1 _ (by decide) (by decide)).trans hat0
      have hneg : kX kT L xs (d + 11) 220 102 [(0, .ref 232), (1, .int v)] [] τ (fun r σ' => (∃ x, r = some (.int x)) ∧ mAfter σ σ' R) := by
        refine mr_se_end L xs (d + 10) τ v _ (fun x RD RV hD hV => ⟨⟨x, rfl⟩, ?_⟩)
        have hself : naS τ (τ 288) (τ 289) (-6) = τ := by
          rw [← hat]
          funext c; unfold naS va_up; repeat' split
          all_goals first | rfl | omega | (subst_vars; rfl) | (funext j; unfold upd; repeat' split; all_goals first | rfl | omega | (subst_vars; rfl))
        have := se_after (RD := RD) (RV := RV) (AS := τ 288) (AT := τ 289) (x := -6) h0 hF hT (Or.inl rfl) (fun j hj => by rw [hD j hj, hkd, hKD j hj]) (fun j hj => by rw [hV j hj, hkv, hKV j hj])
        rw [hself] at this
        exact this
      have hneg2 : ∀ w : Int32, v = w → w < 0 → kX kT L xs (d + 11) 220 94 [(0, .ref 232), (1, .int v)] [] τ (fun r σ' => (∃ x, r = some (.int x)) ∧ mAfter σ σ' R) := by
        intro w hw hlt
        iterate 1 (refine kX_one rfl ?_)
        repeat refine kX_one rfl ?_
        refine kX_ifT (decide_eq_true (by rw [hw]; exact hlt)) ?_
        exact hneg
      rcases hr with e | e | ⟨c, hc, e, hN⟩
      · exact hneg2 (-6) (Value.int.inj (Option.some.inj e)) (by decide)
      · exact hneg2 (-7) (Value.int.inj (Option.some.inj e)) (by decide)
      · have hC6 : C ≤ 6 := h5.1
        have e : v = nI c := Value.int.inj (Option.some.inj e)
        subst e
        iterate 1 (refine kX_one rfl ?_)
        repeat refine kX_one rfl ?_
        refine kX_ifF (decide_eq_false (nI_pos (by omega))) ?_
        iterate 1 (refine kX_one rfl ?_)
        refine kX_cal (mr_noteAttack L xs (d + 9) τ n b' R S N' hT (mBs_sf hT0 hF hB0).1 hS4 hS hN) rfl (Or.inr rfl) rfl rfl rfl (fun r1 τ2 q1 => ?_)
        obtain ⟨rfl, AS, AT, x, rfl, hA⟩ := q1
        refine kX_lv _ rfl rfl rfl (mr_se_end L xs (d + 10) (naS τ AS AT x) (nI c) _ (fun y RD RV hD hV => ⟨⟨y, rfl⟩, ?_⟩))
        exact se_after h0 hF hT hA (fun j hj => by rw [hD j hj, show naS τ AS AT x 290 = τ 290 from rfl, hkd, hKD j hj]) (fun j hj => by rw [hV j hj, show naS τ AS AT x 291 = τ 291 from rfl, hkv, hKV j hj])
    iterate 1 (refine kX_one rfl ?_)
    refine kX_cal (mr_forget L xs (d + 9) _) rfl (Or.inr rfl) rfl rfl rfl (fun r1 σ1 q1 => ?_)
    obtain ⟨rfl, rfl⟩ := q1
    refine kX_st (seQ σ KD KV) rfl ?_
    iterate 1 (refine kX_one rfl ?_)
    refine kX_cal (mr_begins L xs (d + 9) (seQ σ KD KV) n b R S hT0 h2 h3) rfl (Or.inr rfl) rfl rfl rfl (fun r1 σ1 q1 => ?_)
    obtain ⟨rfl, D, V, rfl, hD, hV⟩ := q1
    have hcf := se_cfg hT0 h2 h3 hD hV
    have hF1 : mSf (seQ σ KD KV) (va_up (va_up (seQ σ KD KV) 264 D) 265 V) n := mSf_trans (mSf_up (c := 264) (by decide)) (mSf_up (c := 265) (by decide))
    have hT1 : mTb (va_up (va_up (seQ σ KD KV) 264 D) 265 V) n b := h1
    have hB1 := mBs_sf hT0 hF1 hB0
    have hS1 : mSs (va_up (va_up (seQ σ KD KV) 264 D) 265 V) n R S 0 := ⟨Nat.zero_le _, rfl, fun i hi => absurd hi (Nat.not_lt_zero i)⟩
    have hcom := mr_comesToBe L xs (d + 2) (va_up (va_up (seQ σ KD KV) 264 D) 265 V) n b R S C 0 kl (-1) (-1) hT1 hB1 hS1 hcf (Or.inl ⟨rfl, hD⟩)
    generalize seQ σ KD KV = ρ0 at *
    generalize va_up (va_up ρ0 264 D) 265 V = ρ1 at *
    iterate 3 (refine kX_one rfl ?_)
    refine kX_cal hcom rfl (Or.inr rfl) rfl rfl rfl (fun r1 τ q1 => ?_)
    obtain ⟨N3, m1, m2, hr, hsf, hb3, hss, -⟩ := q1
    have hgo : ∀ w : Int32, r1 = some (.int w) → kX kT L xs (d + 11) 220 65 [(0, .ref 232)] [.int w] τ (fun r σ' => (∃ x, r = some (.int x)) ∧ mAfter σ σ' R) := by
      intro w hw
      subst hw
      iterate 3 (refine kX_one rfl ?_)
      have := mr_se_loop L xs d ρ0 n b R S C kl hT0 hB0 _ k94 (0, w, τ) ⟨Nat.zero_le _, N3, hr, mSf_trans hF1 hsf, hb3, hss⟩
      exact kX_lv _ rfl rfl rfl this
    rcases hr with rfl | rfl | ⟨c', hc', rfl, -⟩
    · exact hgo _ rfl
    · exact hgo _ rfl
    · exact hgo _ rfl
  iterate 2 (refine kX_one rfl ?_)
  have h1' := mr_se_k1 L xs (d + 10) σ (fun r σ' => (∃ x, r = some (.int x)) ∧ mAfter σ σ' R) (fun KD hKD => ?_) (0, σ 290) ⟨Nat.zero_le _, fun j hj => absurd hj (Nat.not_lt_zero j)⟩
  · refine kX_to _ _ rfl rfl rfl ?_ h1'
    funext c; unfold  va_up; repeat' split
    all_goals first | rfl | omega | (subst_vars; rfl) | (funext j; unfold upd; repeat' split; all_goals first | rfl | omega | (subst_vars; rfl))
  · iterate 2 (refine kX_one rfl ?_)
    have h2' := mr_se_k2 L xs (d + 10) (va_up σ 290 KD) (fun r σ' => (∃ x, r = some (.int x)) ∧ mAfter σ σ' R) (fun KV hKV => k51 KD KV hKD hKV) (0, σ 291) ⟨Nat.zero_le _, fun j hj => absurd hj (Nat.not_lt_zero j)⟩
    refine kX_to _ _ rfl rfl rfl ?_ h2'
    funext c; unfold  va_up; repeat' split
    all_goals first | rfl | omega | (subst_vars; rfl) | (funext j; unfold upd; repeat' split; all_goals first | rfl | omega | (subst_vars; rfl))
