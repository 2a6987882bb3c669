/-! alike: the reference's search -/
/-- the attack, as the reference notes it -/
theorem ak_full {σ : kS} {n b R S N : Nat} {l : List (Nat × Nat)} {AT : Nat → Int32} (hR : mRo σ n R) (h : mTb σ n b) (hS : mSs σ n R S N) (hN : 0 < N) (hP : pthB σ S N (N - 1) l) (h24 : l.length ≤ 24) (hA : ∀ p q, l.reverse[p]? = some q → AT p = nI q.2) : (∀ s ∈ l.reverse.map Prod.fst, s < S ∧ (l.reverse.map Prod.fst).count s ≤ fN (σ 247 (fN (σ 255 s)))) ∧ ∀ i (hi : i < (l.reverse.map Prod.fst).length), ∃ st, st < 600 ∧ AT i = nI st ∧ ∀ k, k < 6 → σ 285 (24 * st + 6 * ((l.reverse.map Prod.fst)[i]'hi) + k) = cit (bdv σ (fN (σ 255 ((l.reverse.map Prod.fst)[i]'hi))) (((l.reverse.map Prod.fst).take i).count ((l.reverse.map Prod.fst)[i]'hi) + 1) k) (stV σ (N - 1) (6 * ((l.reverse.map Prod.fst)[i]'hi) + k)) (-6) := by
  have hR4 := hR.1
  have hN6 := hS.1
  obtain ⟨p1, p2, p3⟩ := hP
  have hcnt : ∀ s, (l.map Prod.fst).count s < 2147483648 := fun s => by
    have := List.count_le_length (a := s) (l := l.map Prod.fst)
    rw [List.length_map] at this
    omega
  have hev : ∀ r, r < R → fN (σ 247 r) ≤ 6 := fun r hr => by
    obtain ⟨-, e, e1, e2⟩ := hR.2.2.1 r hr
    rw [e2, fN_nI (by omega)]
    exact e1
  have hel : (l.reverse.map Prod.fst).length = l.length := by simp
  refine ⟨fun s hs => ?_, fun i hi => ?_⟩
  · have hs' : s ∈ l.map Prod.fst := by
      rw [List.map_reverse] at hs
      exact List.mem_reverse.mp hs
    obtain ⟨q, hq, e⟩ := List.mem_map.mp hs'
    obtain ⟨l1, l2, e2⟩ := List.append_of_mem hq
    have hsS : s < S := by
      rw [← e]
      exact (p3 l1 q l2 e2).1
    obtain ⟨r, dn, a1, a2, a3, a4, a5⟩ := (hS.2.2 (N - 1) (by omega)).1 s hsS
    have he := hev r a1
    have hdn : (l.map Prod.fst).count s = dn := nI_inj ((p2 s hsS).symm.trans a3) (hcnt s)
    have hcr : (l.reverse.map Prod.fst).count s = dn := by
      rw [List.map_reverse, List.count_reverse, hdn]
    have hfr : fN (σ 255 s) = r := by rw [a2]; exact fN_nI (by omega)
    refine ⟨hsS, ?_⟩
    rw [hcr, hfr]
    exact a4
  · have hi' : i < l.reverse.length := by simpa using hi
    obtain ⟨q, hq⟩ : ∃ q, l.reverse[i] = q := ⟨_, rfl⟩
    have hA2 := hA i q (by rw [List.getElem?_eq_getElem hi', hq])
    have hsplit : l.reverse = l.reverse.take i ++ q :: l.reverse.drop (i + 1) := by
      rw [← hq, ← List.drop_eq_getElem_cons hi', List.take_append_drop]
    have hl : l = (l.reverse.drop (i + 1)).reverse ++ q :: (l.reverse.take i).reverse := by
      have := congrArg List.reverse hsplit
      rw [List.reverse_reverse, List.reverse_append, List.reverse_cons, List.append_assoc] at this
      exact this
    obtain ⟨q1, q2, q3, q4⟩ := p3 _ q _ hl
    have hasi : (l.reverse.map Prod.fst)[i] = q.1 := by rw [List.getElem_map, hq]
    have htk : ((l.reverse.map Prod.fst).take i).count q.1 = (((l.reverse.take i).reverse).map Prod.fst).count q.1 := by
      rw [List.map_reverse (l := l.reverse.take i), List.count_reverse, List.map_take]
    obtain ⟨r, dn, a1, a2, a3, a4, a5⟩ := (hS.2.2 q.2 q2).1 q.1 q1
    have he := hev r a1
    have hle : ((l.reverse.map Prod.fst).take i).count q.1 ≤ 600 := by
      have := List.count_le_length (a := q.1) (l := (l.reverse.map Prod.fst).take i)
      rw [List.length_take] at this
      omega
    have hdn : ((l.reverse.map Prod.fst).take i).count q.1 + 1 = dn := by
      rw [← htk] at q3
      exact nI_inj (q3.symm.trans a3)
    have hfr : fN (σ 255 q.1) = r := by rw [a2]; exact fN_nI (by omega)
    refine ⟨q.2, by omega, hA2, fun k hk => ?_⟩
    rw [hasi, hfr, hdn, show σ 285 (24 * q.2 + 6 * q.1 + k) = stV σ q.2 (6 * q.1 + k) by unfold stV; rw [show 24 * q.2 + (6 * q.1 + k) = 24 * q.2 + 6 * q.1 + k by omega]]
    by_cases hb : bdv σ r dn k
    · rw [cit_T hb, q4 k hk]
      exact (mVz_ne h ((a5 k hk).1 hb).1).1
    · rw [cit_F hb]
      exact (a5 k hk).2 hb
/-- the attack of X in ω, by its movers as -/
def akX (ω : kS) (S : Nat) (X : sX) (as : List Nat) : Prop := 0 < X.1.length ∧ as.length ≤ 24 ∧ ω 232 72 = nI as.length ∧ lst (ω 288) as ∧ (∀ s ∈ as, s < S ∧ as.count s ≤ fN (ω 247 (fN (ω 255 s)))) ∧ (∀ i (h : i < as.length), ∃ st, st < 600 ∧ ω 289 i = nI st ∧ ∀ k, k < 6 → ω 285 (24 * st + 6 * (as[i]'h) + k) = cit (bdv ω (fN (ω 255 (as[i]'h))) ((as.take i).count (as[i]'h) + 1) k) (aV (xq X.1 (X.1.length - 1)).1 (6 * (as[i]'h) + k)) (-6)) ∧ ∀ P : Nat → Int32, (∀ i, 0 < i → i < X.1.length → P i = (xq X.1 i).2.1) → (∀ j, j < as.length → 0 < tpI P (X.1.length - 1) j) ∧ tpI P (X.1.length - 1) as.length = 0 ∧ (∀ j, j ≤ as.length → tpI P (X.1.length - 1) j < X.1.length) ∧ ∀ k (h : k < as.length), (xq X.1 (tpI P (X.1.length - 1) (as.length - 1 - k))).2.2 = nI (as[k]'h)
/-- what the reference's search leaves -/
def seY (τ ω : kS) (n R S C : Nat) (kl : List Nat) (X : sX) : Prop := (∃ b', mI ω n b' R S C kl) ∧ (∀ c, c ∉ rowC → c ∉ srX → c ≠ 290 → c ≠ 291 → c ≠ 288 → c ≠ 289 → ω c = τ c) ∧ (∀ j, j < 4 → ω 264 j = τ 264 j) ∧ (∀ j, j < 24 → ω 265 j = τ 265 j) ∧ (∀ j, j ∉ rowJ → j ∉ srJ → j ≠ 72 → ω 232 j = τ 232 j) ∧ (∀ u, u < 200 → ω 233 u = τ 233 u ∧ ω 234 u = τ 234 u ∧ ω 235 u = τ 235 u) ∧ (ω 232 69 = nI X.1.length ∧ X.1.length ≤ 600 ∧ ω 232 70 = nI X.2.1 ∧ ω 232 71 = nI X.2.2.1) ∧ (X.2.2.2 = 0 ∨ X.2.2.2 = -7 → ω 232 72 = -6) ∧ (X.2.2.2 ≠ 0 → X.2.2.2 ≠ -7 → ∃ as, akX ω S X as)
theorem se_I {σ τ : kS} {n b b' R S C : Nat} {kl : List Nat} {KD KV RD RV AS AT : Nat → Int32} {x : Int32} (h : mI σ n b R S C kl) (hF : mSf (seQ σ KD KV) τ n) (hT : mTb τ n b') (hA : mAk (naS τ AS AT x) n R S) (hd : ∀ j, j < 4 → RD j = σ 264 j) (hv : ∀ j, j < 24 → RV j = σ 265 j) : mI (va_up (va_up (va_up (naS τ AS AT x) 264 RD) 265 RV) 232 (upd (naS τ AS AT x 232) 47 0)) n b' R S C kl := by
  obtain ⟨h1, h2, h3, h4, h5, h6, h7⟩ := h
  have hT0 : mTb (seQ σ KD KV) n b := h1
  have hB0 : mBs (seQ σ KD KV) n R S C kl := ⟨h2, h3, h4, h5⟩
  have hB := mBs_sf hT0 hF hB0
  refine ⟨hT, hB.1, hB.2.1, hB.2.2.1, hB.2.2.2, ?_, hA⟩
  have er : τ 232 52 = σ 232 52 := hF.2.1 52 (by decide) (by decide)
  rcases h6 with h6 | ⟨h6, ds, g1, g2, g3⟩
  · exact Or.inl (er.trans h6)
  · have hS0 : mRn (seQ σ KD KV) n R S ds := g1
    have hB0 : mBi (seQ σ KD KV) ds := g2
    have hR0 : mRo (seQ σ KD KV) n R := h2
    have hB1 := mFr_Bi (τ := pat (seQ σ KD KV) τ) hT0 hR0 (pat_fr hF) hS0 hB0
    have hrn := se_Rn (τ := τ) (RD := RD) (RV := RV) hT0 hR0 hF h3.1 hS0 hT hd hv
    exact Or.inr ⟨er.trans h6, ds, hrn, hB1, Or.inl rfl⟩
set_option maxRecDepth 100000 in
set_option maxHeartbeats 4000000 in
theorem mf_se_end (L : Nat) (xs : Nat → Int32) (d : Nat) (τ : kS) (v y : Int32) (C : Nat) (hC : C ≤ 6) (hv : (v = -6 ∧ y = 0) ∨ (v = -7 ∧ y = -7) ∨ ∃ c, c < C ∧ v = nI c ∧ y = nI (1 + c)) (Q : Option Value → kS → Prop)
    (he : ∀ RD RV, (∀ j, j < 4 → RD j = τ 290 j) → (∀ j, j < 24 → RV j = τ 291 j) → Q (some (.int y)) (va_up (va_up (va_up τ 264 RD) 265 RV) 232 (upd (τ 232) 47 0))) :
    kX kT L xs (d + 1) 220 102 [(0, .ref 232), (1, .int v)] [] τ Q := by
  iterate 2 (refine kX_one rfl ?_)
  have h1 := mr_se_r1 L xs d τ v Q (fun RD hD => ?_) (0, τ 264) ⟨Nat.zero_le _, fun j hj => absurd hj (Nat.not_lt_zero j)⟩
  · refine kX_to _ _ rfl rfl rfl ?_ h1
    funext c; unfold  va_up; repeat' split
    all_goals first | rfl | omega | (subst_vars; rfl) | (funext j; unfold upd; repeat' split; all_goals first | rfl | omega | (subst_vars; rfl))
  · iterate 2 (refine kX_one rfl ?_)
    have h2 := mr_se_r2 L xs d (va_up τ 264 RD) v Q (fun RV hV => ?_) (0, τ 265) ⟨Nat.zero_le _, fun j hj => absurd hj (Nat.not_lt_zero j)⟩
    · refine kX_to _ _ rfl rfl rfl ?_ h2
      funext c; unfold  va_up; repeat' split
      all_goals first | rfl | omega | (subst_vars; rfl) | (funext j; unfold upd; repeat' split; all_goals first | rfl | omega | (subst_vars; rfl))
    · iterate 5 (refine kX_one rfl ?_)
      refine kX_st (va_up (va_up (va_up τ 264 RD) 265 RV) 232 (upd (τ 232) 47 0)) rfl ?_
      rcases hv with ⟨rfl, rfl⟩ | ⟨rfl, rfl⟩ | ⟨c, hc, rfl, rfl⟩
      · repeat refine kX_one rfl ?_
        refine kX_ret (i := .ireturn) (len := 1) rfl (Or.inr rfl) rfl (he RD RV hD hV)
      · repeat refine kX_one rfl ?_
        refine kX_ret (i := .ireturn) (len := 1) rfl (Or.inr rfl) rfl (he RD RV hD hV)
      · have h0 : ¬ nI c < 0 := nI_pos (by omega)
        repeat refine kX_one rfl ?_
        refine kX_if (fun q => ?_) (fun q => ?_)
        · iterate 2 (refine kX_one rfl ?_)
          repeat refine kX_one rfl ?_
          refine kX_if (fun q2 => ?_) (fun q2 => ?_)
          · iterate 3 (refine kX_one rfl ?_)
            refine kX_top (y := nI (1 + c)) (nI_add 1 c) ?_
            refine kX_ret (i := .ireturn) (len := 1) rfl (Or.inr rfl) rfl (he RD RV hD hV)
          · exfalso
            have q2 : nI c = -6 := qneF q2
            exact h0 (by rw [q2]; decide)
        · exfalso
          have q : nI c = -7 := qneF q
          exact h0 (by rw [q]; decide)
set_option maxRecDepth 100000 in
set_option maxHeartbeats 4000000 in
theorem mY_search (L : Nat) (xs : Nat → Int32) (d : Nat) (σ : kS) (n b R S C : Nat) (kl : List Nat) (h : mI σ n b R S C kl) (a0 : Nat → Int32) (ha0 : aOk σ n R S a0) (h00 : ∀ s, s < S → a0 (7 * s) = 0) (hv0 : ∀ s k, s < S → k < 6 → aV a0 (6 * s + k) = if k < fN (σ 244 (fN (σ 255 s))) then σ 256 (6 * s + k) else -6) (X : sX) (hXe : X = sSr σ kl n S C a0) : kXM kT L xs (d + 11) 220 [.ref 232] σ (fun r ω => r = some (.int X.2.2.2) ∧ seY σ ω n R S C kl X) := by
  have h0 := h
  obtain ⟨h1, h2, h3, h4, h5, h6, h7⟩ := h
  have hS4 := h3.1
  have hC6 : C ≤ 6 := h5.1
  unfold kXM
  have k51 : ∀ KD KV, (∀ j, j < 4 → KD j = σ 264 j) → (∀ j, j < 24 → KV j = σ 265 j) → kX kT L xs (d + 11) 220 51 [(0, .ref 232)] [] (va_up (va_up σ 290 KD) 291 KV) (fun r ω => r = some (.int X.2.2.2) ∧ seY σ ω n R S C kl X) := by
    intro KD KV hKD hKV
    have hT0 : mTb (seQ σ KD KV) n b := h1
    have hB0 : mBs (seQ σ KD KV) n R S C kl := ⟨h2, h3, h4, h5⟩
    have hat0 : seQ σ KD KV 232 72 = -6 := rfl
    have heq : eqC σ (seQ σ KD KV) sxD := eqC_of (P := fun c => c ≠ 290 ∧ c ≠ 291 ∧ c ≠ 232) (fun c q => by
      unfold seQ
      rw [up_ne q.2.2, up_ne q.2.1, up_ne q.1]) _ (by decide)
    have hXe2 : X = sSr (seQ σ KD KV) kl n S C a0 := by rw [hXe, sSr_c heq]
    have ha02 : aOk (seQ σ KD KV) n R S a0 := ha0
    have hq1 : ∀ c, c ≠ 290 → c ≠ 291 → c ≠ 232 → seQ σ KD KV c = σ c := fun c c1 c2 c3 => by
      unfold seQ
      rw [up_ne c3, up_ne c2, up_ne c1]
    have hq2 : ∀ j, j ∉ rowJ → j ∉ srJ → j ≠ 72 → seQ σ KD KV 232 j = σ 232 j := fun j j1 j2 j3 => by
      show fgO (σ 232) j = σ 232 j
      simp only [rowJ, srJ, List.mem_cons, List.not_mem_nil, or_false, not_or] at j1 j2
      unfold fgO
      repeat (first | rw [pk_un (by omega)] | rfl)
    have hqk : ∀ u, u < 200 → seQ σ KD KV 233 u = σ 233 u ∧ seQ σ KD KV 234 u = σ 234 u ∧ seQ σ KD KV 235 u = σ 235 u := fun u _ => ⟨rfl, rfl, rfl⟩
    /- the end -/
    have fin : ∀ τ (AS AT : Nat → Int32) (m : Int32) (RD RV : Nat → Int32), mY (seQ σ KD KV) τ n R S X → mAk (naS τ AS AT m) n R S → (∀ j, j < 4 → RD j = σ 264 j) → (∀ j, j < 24 → RV j = σ 265 j) → (X.2.2.2 = 0 ∨ X.2.2.2 = -7 → m = -6) → (X.2.2.2 ≠ 0 → X.2.2.2 ≠ -7 → ∃ as, akX (naS τ AS AT m) S X as) → seY σ (va_up (va_up (va_up (naS τ AS AT m) 264 RD) 265 RV) 232 (upd (naS τ AS AT m 232) 47 0)) n R S C kl X := by
      intro τ AS AT m RD RV hY hA hD hV hm has
      obtain ⟨hF, ⟨bt, hTt⟩, hSs, hSx, ⟨w1, w2, w3⟩, hok⟩ := hY
      refine ⟨⟨bt, se_I h0 hF hTt hA hD hV⟩, fun c c1 c2 c3 c4 c5 c6 => ?_, hD, hV, fun j j1 j2 j3 => ?_, fun u hu => ?_, ⟨hSs.2.1, hSs.1, w1, w3⟩, hm, fun z1 z2 => ?_⟩
      · have e1 : c ≠ 232 := fun e => c1 (e ▸ (by decide))
        have e2 : c ≠ 264 := fun e => c2 (e ▸ (by decide))
        have e3 : c ≠ 265 := fun e => c2 (e ▸ (by decide))
        rw [up_ne e1, up_ne e3, up_ne e2]
        unfold naS
        rw [up_ne e1, up_ne c6, up_ne c5, hF.1 c c1 c2]
        exact hq1 c c3 c4 e1
      · show upd (upd (τ 232) 72 m) 47 0 j = σ 232 j
        rw [pk_un (show j ≠ 47 from fun e => j1 (by rw [e]; decide)), pk_un j3, hF.2.1 j j1 j2]
        exact hq2 j j1 j2 j3
      · exact hF.2.2 u hu
      · obtain ⟨as, g1, g2, g3, g4, g5, g6, g7⟩ := has z1 z2
        exact ⟨as, g1, g2, g3, g4, g5, g6, g7⟩
    have k94 : ∀ v τ, mY (seQ σ KD KV) τ n R S X → rY C X (some (.int v)) → kX kT L xs (d + 11) 220 94 [(0, .ref 232), (1, .int v)] [] τ (fun r ω => r = some (.int X.2.2.2) ∧ seY σ ω n R S C kl X) := by
      intro v τ hY hr
      obtain ⟨hF, ⟨bt, hTt⟩, hSs, hSx, hw, hok⟩ := id hY
      have hkd : τ 290 = KD := hF.1 _ (by decide) (by decide)
      have hkv : τ 291 = KV := hF.1 _ (by decide) (by decide)
      have hat : τ 232 72 = -6 := (hF.2.1 _ (by decide) (by decide)).trans hat0
      have hneg : ∀ y, y = X.2.2.2 → (v = -6 ∧ y = 0) ∨ (v = -7 ∧ y = -7) → v < 0 → kX kT L xs (d + 11) 220 94 [(0, .ref 232), (1, .int v)] [] τ (fun r ω => r = some (.int X.2.2.2) ∧ seY σ ω n R S C kl X) := by
        intro y hy hvy hlt
        iterate 1 (refine kX_one rfl ?_)
        repeat refine kX_one rfl ?_
        refine kX_ifT (decide_eq_true hlt) ?_
        refine mf_se_end L xs (d + 10) τ v y C hC6 (hvy.elim Or.inl (fun z => Or.inr (Or.inl z))) _ (fun RD RV hD hV => ⟨by rw [hy], ?_⟩)
        have hself : naS τ (τ 288) (τ 289) (-6) = τ := by
          rw [← hat]
          funext c; unfold naS va_up; repeat' split
          all_goals first | rfl | omega | (subst_vars; rfl) | (funext j; unfold upd; repeat' split; all_goals first | rfl | omega | (subst_vars; rfl))
        have := fin τ (τ 288) (τ 289) (-6) RD RV hY (Or.inl rfl) (fun j hj => by rw [hD j hj, hkd, hKD j hj]) (fun j hj => by rw [hV j hj, hkv, hKV j hj]) (fun _ => rfl) (fun z1 z2 => by
          rcases hvy with ⟨-, q⟩ | ⟨-, q⟩
          · exact absurd (hy.symm.trans q) z1
          · exact absurd (hy.symm.trans q) z2)
        rw [hself] at this
        exact this
      rcases hr with ⟨q1, q2⟩ | ⟨q1, q2⟩ | ⟨c, hc1, hc2, q2, hN⟩
      · have q2 : v = -6 := Value.int.inj (Option.some.inj q2)
        exact hneg 0 q1.symm (Or.inl ⟨q2, rfl⟩) (by rw [q2]; decide)
      · have q2 : v = -7 := Value.int.inj (Option.some.inj q2)
        exact hneg (-7) q1.symm (Or.inr ⟨q2, rfl⟩) (by rw [q2]; decide)
      · have q2 : v = nI c := Value.int.inj (Option.some.inj q2)
        subst q2
        have hBt := mBs_sf hT0 hF hB0
        iterate 1 (refine kX_one rfl ?_)
        repeat refine kX_one rfl ?_
        refine kX_ifF (decide_eq_false (nI_pos (by omega))) ?_
        iterate 1 (refine kX_one rfl ?_)
        refine kX_cal (mf_noteAttack L xs (d + 9) τ n bt R S X.1.length hTt hBt.1 hS4 hSs hN) rfl (Or.inr rfl) rfl rfl rfl (fun r1 τ2 q1 => ?_)
        obtain ⟨rfl, AS, AT, l0, rfl, hA, hpR, hpB, h24, hAS⟩ := q1
        refine kX_lv _ rfl rfl rfl (mf_se_end L xs (d + 10) (naS τ AS AT (nI l0.length)) (nI c) (nI (1 + c)) C hC6 (Or.inr (Or.inr ⟨c, hc1, rfl, rfl⟩)) _ (fun RD RV hD hV => ⟨by rw [hc2], ?_⟩))
        refine fin τ AS AT (nI l0.length) RD RV hY hA (fun j hj => by rw [hD j hj, show naS τ AS AT (nI l0.length) 290 = τ 290 from rfl, hkd, hKD j hj]) (fun j hj => by rw [hV j hj, show naS τ AS AT (nI l0.length) 291 = τ 291 from rfl, hkv, hKV j hj]) (fun z => ?_) (fun _ _ => ?_)
        · exfalso
          rw [hc2] at z
          rcases z with z | z
          · exact nI_ne0 (by omega) (by omega) z
          · exact nI_pos (show 1 + c < 2147483648 by omega) (by rw [z]; decide)
        · obtain ⟨f1, f2⟩ := ak_full (AT := AT) hBt.1 hTt hSs hN hpB h24 (fun p q hq => (hAS p q hq).2)
          have hel : (l0.reverse.map Prod.fst).length = l0.length := by simp
          refine ⟨l0.reverse.map Prod.fst, hN, by omega, ?_, fun i hi => ?_, f1, fun i hi => ?_, fun P hP => ?_⟩
          · show nI l0.length = _
            rw [hel]
          · have hi' : i < l0.reverse.length := by simpa using hi
            have := (hAS i l0.reverse[i] (List.getElem?_eq_getElem hi')).1
            rw [List.getElem_map]
            exact this
          · obtain ⟨st, g1, g2, g3⟩ := f2 i hi
            refine ⟨st, g1, g2, fun k hk => ?_⟩
            have hsS := (f1 _ (List.getElem_mem hi)).1
            have e := (hSx (X.1.length - 1) (by omega)).2.1 ((l0.reverse.map Prod.fst)[i]'hi) k hsS hk
            rw [← e]
            exact g3 k hk
          · obtain ⟨b1, b2, b3, b4⟩ := pth_tp (σ := τ) (P := P) hSs.1 (fun j j1 j2 => (hP j j1 j2).trans ((hSx j j2).2.2.1).symm) l0 (X.1.length - 1) (by omega) hpR
            refine ⟨fun j hj => b1 j (by omega), by rw [hel]; exact b2, fun j hj => b3 j (by omega), fun k hk => ?_⟩
            have hk' : k < l0.length := by simpa using hk
            obtain ⟨-, b5⟩ := b4 (l0.length - 1 - k) (by omega)
            rw [show (l0.reverse.map Prod.fst).length - 1 - k = l0.length - 1 - k by omega, ← (hSx _ (b3 (l0.length - 1 - k) (by omega))).2.2.2, b5, List.getElem_map, List.getElem_reverse]
    iterate 1 (refine kX_one rfl ?_)
    refine kX_cal (mr_forget L xs (d + 9) _) rfl (Or.inr rfl) rfl rfl rfl (fun r1 σ1 q1 => ?_)
    obtain ⟨rfl, rfl⟩ := q1
    refine kX_st (seQ σ KD KV) rfl ?_
    iterate 1 (refine kX_one rfl ?_)
    refine kX_cal (mr_begins L xs (d + 9) (seQ σ KD KV) n b R S hT0 h2 h3) rfl (Or.inr rfl) rfl rfl rfl (fun r1 σ1 q1 => ?_)
    obtain ⟨rfl, D, V, rfl, hD, hV⟩ := q1
    have hY0 : mY (seQ σ KD KV) (seQ σ KD KV) n R S ([], 0, 0, 0) := ⟨mSf_refl _ n, ⟨b, hT0⟩, ⟨Nat.zero_le _, rfl, fun i hi => absurd hi (Nat.not_lt_zero i)⟩, fun i hi => absurd hi (Nat.not_lt_zero i), ⟨rfl, by decide, rfl⟩, xOk_nil _ n R S⟩
    have hY1 : mY (seQ σ KD KV) (va_up (va_up (seQ σ KD KV) 264 D) 265 V) n R S ([], 0, 0, 0) := mY_up hT0 hB0 (mY_up hT0 hB0 hY0 (Or.inl rfl)) (Or.inr (Or.inl rfl))
    have hst1 : aSt (va_up (va_up (seQ σ KD KV) 264 D) 265 V) S a0 := ⟨fun s hs => (hD s hs).trans (h00 s hs).symm, fun s k hs hk => (hV s k hs hk).trans (hv0 s k hs hk).symm⟩
    have hcom := mY_comes L xs (d + 2) (seQ σ KD KV) (va_up (va_up (seQ σ KD KV) 264 D) 265 V) n b R S C kl ([], 0, 0, 0) a0 (-1) (-1) hT0 hB0 hY1 ha02 hst1 rfl (Or.inl ⟨rfl, h00⟩)
    generalize va_up (va_up (seQ σ KD KV) 264 D) 265 V = ρ1 at *
    generalize seQ σ KD KV = ρ0 at *
    /- the loop -/
    have loop : ∀ q : Nat × Int32 × kS × sX, (q.1 ≤ 600 ∧ mY ρ0 q.2.2.1 n R S q.2.2.2 ∧ rY C q.2.2.2 (some (.int q.2.1)) ∧ sAll ρ0 kl n S C (600 - q.1) q.1 q.2.2.2 = X) → kX kT L xs (d + 11) 220 68 [(2, .int (nI q.1)), (1, .int q.2.1), (0, .ref 232)] [] q.2.2.1 (fun r ω => r = some (.int X.2.2.2) ∧ seY σ ω n R S C kl X) := by
      refine kX_while (fun q : Nat × Int32 × kS × sX => [(2, .int (nI q.1)), (1, .int q.2.1), (0, .ref 232)]) (fun q => q.2.2.1) _ (fun q => 600 - q.1) ?_
      rintro ⟨i, v, τ, x⟩ ⟨i1, i2, i3, i4⟩ ih
      dsimp only at i1 i2 i3 i4 ih ⊢
      have hN6 := i2.2.2.1.1
      have hne := rY_ne hC6 i3
      have hdone : ¬ (x.2.2.2 = 0 ∧ i < x.1.length) → x = X := fun z => by
        have hall : ∀ m, sAll ρ0 kl n S C m i x = x := fun m => by
          cases m with
          | zero => rfl
          | succ m => rw [sAll, cit_F z]
        rw [hall] at i4
        exact i4
      iterate 3 (refine kX_one rfl ?_)
      refine kX_top (i2.2.2.1.2.1) ?_
      repeat refine kX_one rfl ?_
      refine kX_if (fun q => ?_) (fun q => ?_)
      · have q := qge q i x.1.length
        have e := hdone (fun z => by omega)
        subst e
        exact kX_lv _ rfl rfl rfl (k94 v τ i2 i3)
      · have q := qgeF q i x.1.length
        iterate 2 (refine kX_one rfl ?_)
        repeat refine kX_one rfl ?_
        refine kX_if (fun q2 => ?_) (fun q2 => ?_)
        · have q2 : v ≠ -6 := qne q2
          have e := hdone (fun z => q2 (Value.int.inj (Option.some.inj (hne.mp z.1))))
          subst e
          exact kX_lv _ rfl rfl rfl (k94 v τ i2 i3)
        · have q2 : v = -6 := qneF q2
          have hz : x.2.2.2 = 0 := hne.mpr (by rw [q2])
          obtain ⟨m', hm'⟩ : ∃ m', 600 - i = m' + 1 := ⟨600 - i - 1, by omega⟩
          rw [hm', sAll, cit_T ⟨hz, q⟩] at i4
          iterate 2 (refine kX_one rfl ?_)
          refine kX_cal (mY_goesOn L xs d ρ0 τ n b R S C i kl x _ _ hT0 hB0 i2 q rfl hz rfl) rfl (Or.inr rfl) rfl rfl rfl (fun r1 τ2 q1 => ?_)
          obtain ⟨z1, z2⟩ := q1
          have hgo : ∀ w : Int32, r1 = some (.int w) → kX kT L xs (d + 11) 220 87 [(2, .int (nI i)), (1, .int v), (0, .ref 232)] [.int w] τ2 (fun r ω => r = some (.int X.2.2.2) ∧ seY σ ω n R S C kl X) := by
            intro w hw
            subst hw
            iterate 3 (refine kX_one rfl ?_)
            have := ih (i + 1, w, τ2, _) ⟨by simp only; omega, z1, z2, by simp only; rw [show 600 - (i + 1) = m' by omega]; exact i4⟩ (by simp only; omega)
            dsimp only at this
            rw [← nI_1] at this
            exact kX_lv _ rfl rfl rfl this
          rcases z2 with ⟨-, rfl⟩ | ⟨-, rfl⟩ | ⟨c', -, -, rfl, -⟩
          · exact hgo _ rfl
          · exact hgo _ rfl
          · exact hgo _ rfl
    iterate 3 (refine kX_one rfl ?_)
    refine kX_cal hcom rfl (Or.inr rfl) rfl rfl rfl (fun r1 τ q1 => ?_)
    obtain ⟨z1, z2, -⟩ := q1
    have hgo : ∀ w : Int32, r1 = some (.int w) → kX kT L xs (d + 11) 220 65 [(0, .ref 232)] [.int w] τ (fun r ω => r = some (.int X.2.2.2) ∧ seY σ ω n R S C kl X) := by
      intro w hw
      subst hw
      iterate 3 (refine kX_one rfl ?_)
      exact kX_lv _ rfl rfl rfl (loop (0, w, τ, _) ⟨Nat.zero_le _, z1, z2, hXe2.symm⟩)
    rcases z2 with ⟨-, rfl⟩ | ⟨-, rfl⟩ | ⟨c', -, -, rfl, -⟩
    · exact hgo _ rfl
    · exact hgo _ rfl
    · exact hgo _ rfl
  iterate 2 (refine kX_one rfl ?_)
  have h1' := mr_se_k1 L xs (d + 10) σ (fun r ω => r = some (.int X.2.2.2) ∧ seY σ ω n R S C kl X) (fun KD hKD => ?_) (0, σ 290) ⟨Nat.zero_le _, fun j hj => absurd hj (Nat.not_lt_zero j)⟩
  · refine kX_to _ _ rfl rfl rfl ?_ h1'
    funext c; unfold  va_up; repeat' split
    all_goals first | rfl | omega | (subst_vars; rfl) | (funext j; unfold upd; repeat' split; all_goals first | rfl | omega | (subst_vars; rfl))
  · iterate 2 (refine kX_one rfl ?_)
    have h2' := mr_se_k2 L xs (d + 10) (va_up σ 290 KD) (fun r ω => r = some (.int X.2.2.2) ∧ seY σ ω n R S C kl X) (fun KV hKV => k51 KD KV hKD hKV) (0, σ 291) ⟨Nat.zero_le _, fun j hj => absurd hj (Nat.not_lt_zero j)⟩
    refine kX_to _ _ rfl rfl rfl ?_ h2'
    funext c; unfold  va_up; repeat' split
    all_goals first | rfl | omega | (subst_vars; rfl) | (funext j; unfold upd; repeat' split; all_goals first | rfl | omega | (subst_vars; rfl))
