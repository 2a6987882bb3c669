/-! alike: receives, goesOn -/
theorem mY_ways {σ τ : kS} {n b R S C k : Nat} {kl : List Nat} {x : sX} {an : Int32} (hT : mTb σ n b) (hB : mBs σ n R S C kl) (hY : mY σ τ n R S x) (hk : k ≤ 20001) : mY σ (va_up τ 232 (upd (τ 232) 70 (nI k))) n R S (x.1, k, x.2.2.1, an) := by
  obtain ⟨h1, ⟨b1, h2⟩, h3, h4, ⟨w1, w2, w3⟩, h5⟩ := hY
  have hF : mSf τ (va_up τ 232 (upd (τ 232) 70 (nI k))) n := mSf_o (by decide)
  exact ⟨mSf_trans h1 hF, ⟨b1, h2⟩, mSs_sf h2 (mSf_Ro hT h1 hB.1) hF rfl rfl rfl rfl rfl h3, h4, ⟨rfl, hk, w3⟩, h5⟩
set_option maxRecDepth 100000 in
set_option maxHeartbeats 4000000 in
theorem mY_rc_go (L : Nat) (xs : Nat → Int32) (d : Nat) (σ τ : kS) (n b R S C i s r dn t W : Nat) (kl : List Nat) (x : sX) (a : Nat → Int32) (X : sX) (hT : mTb σ n b) (hB : mBs σ n R S C kl) (ha : aOk σ n R S a) (hs : s < S) (r1 : r < R) (r2 : σ 255 s = nI r) (r3 : a (7 * s) = nI dn) (hdn : dn < fN (σ 247 r)) (hse : σ 249 (6 * r + dn) = 0) (ht : t < n) (het : σ 248 (6 * r + dn) = nI t) (hW : wyN ((owO σ n r dn).map List.length) = W) (hi6 : i < 600) (hi : i < x.1.length) (hai : (xq x.1 i).1 = a) (han : x.2.2.2 = 0) (hY : mY σ τ n R S x) (hst : aSt τ S a) (hrw : rwY τ n (trSt (stI σ a) kl S)) (ho : lst (τ 292) (bls σ r dn)) (hXe : X = cit (20000 < x.2.1 + W) (x.1, 20001, x.2.2.1, -7) (sWy σ kl S C i s a t (owP σ r dn) (owO σ n r dn) W 0 (x.1, x.2.1 + W, x.2.2.1, x.2.2.2))) :
    kX kT L xs (d + 9) 217 107 [(0, .ref 232), (1, .int (nI i)), (2, .int (nI s)), (3, .int (nI t)), (4, .int (nI (bls σ r dn).length)), (5, .long (lI (min W 20001)))] [] τ (fun r σ' => rcY σ σ' n R S C kl a X r) := by
  obtain ⟨w1, w2, w3⟩ := hY.2.2.2.2.1
  obtain ⟨bo1, bo2, bo3, bo4, bo5⟩ := bls_ok hT hB.1 r1 hdn het ht
  have lO : (owO σ n r dn).length = (bls σ r dn).length := (ow_len σ n r dn 0).2.1
  have hn := hT.1
  have hO : opW σ n (bls σ r dn) (owO σ n r dn) := ⟨lO, bo5, fun p hp hp' => by
    obtain ⟨u1, -, so, s1, s2⟩ := bo3 _ (List.getElem_mem hp)
    refine ⟨by omega, so, s1, s2, ?_⟩
    simp only [owO, List.getElem_map]
    rw [s2, fN_nI (by omega)]⟩
  have hMle : min W 20001 ≤ 20001 := Nat.min_le_right _ _
  have hsum : (nI x.2.1).toInt64 + lI (min W 20001) = lI (x.2.1 + min W 20001) := by
    rw [nI_lI (by omega), lI_add]
  iterate 2 (refine kX_one rfl ?_)
  refine kX_top (w1) ?_
  iterate 5 (refine kX_one rfl ?_)
  repeat refine kX_one rfl ?_
  refine kX_if (fun q => ?_) (fun q => ?_)
  · have q : lg_cmp ((nI x.2.1).toInt64 + lI (min W 20001)) 20000 ≤ 0 := of_decide_eq_true q
    rw [hsum, lc_le (by omega)] at q
    have hWl : W ≤ 20000 := by omega
    rw [Nat.min_eq_left (show W ≤ 20001 by omega)] at q ⊢
    rw [cit_F (by omega)] at hXe
    have hY2 : mY σ (va_up τ 232 (upd (τ 232) 70 (nI (x.2.1 + W)))) n R S (x.1, x.2.1 + W, x.2.2.1, x.2.2.2) := mY_ways hT hB hY (by omega)
    have hst2 : aSt (va_up τ 232 (upd (τ 232) 70 (nI (x.2.1 + W)))) S a := hst
    have hrw2 : rwY (va_up τ 232 (upd (τ 232) 70 (nI (x.2.1 + W)))) n (trSt (stI σ a) kl S) := hrw
    have ho2 : lst ((va_up τ 232 (upd (τ 232) 70 (nI (x.2.1 + W)))) 292) (bls σ r dn) := ho
    iterate 3 (refine kX_one rfl ?_)
    refine kX_top (w1) ?_
    iterate 3 (refine kX_one rfl ?_)
    refine kX_top (y := nI (x.2.1 + W)) (by rw [lI_32 (by omega)]; exact nI_add x.2.1 W) ?_
    iterate 1 (refine kX_one rfl ?_)
    generalize va_up τ 232 (upd (τ 232) 70 (nI (x.2.1 + W))) = ρ at *
    have hl0 : lg_cmp (lI W) 0 ≠ 0 ↔ W ≠ 0 := by
      have e : (0 : Int64) = lI 0 := by decide
      rw [e]
      refine ⟨fun z e2 => z (by rw [e2]; decide), fun z e2 => ?_⟩
      unfold lg_cmp at e2
      rw [if_pos (show lI W > lI 0 by show lI 0 < lI W; rw [Int64.lt_iff_toInt_lt, lI_toInt (by omega), lI_toInt (by omega)]; omega)] at e2
      exact absurd e2 (by decide)
    iterate 3 (refine kX_one rfl ?_)
    repeat refine kX_one rfl ?_
    refine kX_if (fun q2 => ?_) (fun q2 => ?_)
    · have q2 : W ≠ 0 := hl0.mp (qne q2)
      obtain ⟨bt, hTt⟩ := hY2.2.1
      iterate 2 (refine kX_one rfl ?_)
      have := mf_rc_first L xs (d + 6) σ ρ n b bt (bls σ r dn) (owO σ n r dn) hT hY2.1 hTt hO ho2 (wyN_0 (by omega)) (nI i) (nI s) (nI t) (lI W) (fun r σ' => rcY σ σ' n R S C kl a X r) (fun CH hC => ?_) (0, ρ 293) ⟨Nat.zero_le _, fun p _ _ _ hp => absurd hp (Nat.not_lt_zero p)⟩
      · refine kX_to _ _ rfl rfl rfl ?_ this
        funext c; unfold  va_up; repeat' split
        all_goals first | rfl | omega | (subst_vars; rfl) | (funext j; unfold upd; repeat' split; all_goals first | rfl | omega | (subst_vars; rfl))
      · iterate 2 (refine kX_one rfl ?_)
        have := mY_rc_main L xs d σ n b R S C i s r dn t W kl a X hT hB ha hs r1 r2 r3 hdn hse ht het hW hi6 (lI W) (0, va_up ρ 293 CH, (x.1, x.2.1 + W, x.2.2.1, x.2.2.2)) ⟨by simp only; omega, han, ⟨hi, hai⟩, hXe.symm, mY_up hT hB hY2 (Or.inr (Or.inr (Or.inr rfl))), ho2, hrw2, hst2.1, fun u k hu hk _ => hst2.2 u k hu hk, chW_G hC (by omega)⟩
        exact kX_lv _ rfl rfl rfl this
    · have q2 : W = 0 := Classical.byContradiction (fun z => hl0.mpr z (qneF q2))
      rw [q2] at hXe hY2
      have hXe : X = (x.1, x.2.1 + 0, x.2.2.1, x.2.2.2) := hXe
      rw [← hXe] at hY2
      have hXa : X.2.2.2 = 0 := by rw [hXe]; exact han
      repeat refine kX_one rfl ?_
      refine kX_ret (i := .ireturn) (len := 1) rfl (Or.inr rfl) rfl ⟨hY2, Or.inl ⟨hXa, rfl⟩, fun _ => ⟨hst2, hrw2⟩⟩
  · have q : ¬ lg_cmp ((nI x.2.1).toInt64 + lI (min W 20001)) 20000 ≤ 0 := of_decide_eq_false q
    rw [hsum, lc_le (by omega)] at q
    have hWg : 20000 < x.2.1 + W := by
      have := Nat.min_le_left W 20001
      omega
    rw [cit_T hWg] at hXe
    have hY2 : mY σ (va_up τ 232 (upd (τ 232) 70 (nI 20001))) n R S (x.1, 20001, x.2.2.1, -7) := mY_ways hT hB hY (by omega)
    rw [← hXe] at hY2
    repeat refine kX_one rfl ?_
    refine kX_ret (i := .ireturn) (len := 1) rfl (Or.inr rfl) rfl ⟨hY2, Or.inr (Or.inl ⟨by rw [hXe], rfl⟩), fun z => ?_⟩
    rw [hXe] at z
    have z : (-7 : Int32) = 0 := z
    exact absurd z (by decide)
set_option maxRecDepth 100000 in
set_option maxHeartbeats 4000000 in
theorem mY_receives (L : Nat) (xs : Nat → Int32) (d : Nat) (σ τ : kS) (n b R S C i s r dn t : Nat) (kl : List Nat) (x : sX) (a : Nat → Int32) (X : sX) (hT : mTb σ n b) (hB : mBs σ n R S C kl) (ha : aOk σ n R S a) (hs : s < S) (r1 : r < R) (r2 : σ 255 s = nI r) (r3 : a (7 * s) = nI dn) (hdn : dn < fN (σ 247 r)) (hse : σ 249 (6 * r + dn) = 0) (ht : t < n) (het : σ 248 (6 * r + dn) = nI t) (hi6 : i < 600) (hi : i < x.1.length) (hai : (xq x.1 i).1 = a) (han : x.2.2.2 = 0) (hY : mY σ τ n R S x) (hst : aSt τ S a) (hrw : rwY τ n (trSt (stI σ a) kl S)) (hXe : X = cit (20000 < x.2.1 + wyN ((owO σ n r dn).map List.length)) (x.1, 20001, x.2.2.1, -7) (sWy σ kl S C i s a t (owP σ r dn) (owO σ n r dn) (wyN ((owO σ n r dn).map List.length)) 0 (x.1, x.2.1 + wyN ((owO σ n r dn).map List.length), x.2.2.1, x.2.2.2))) :
    kXM kT L xs (d + 9) 217 [.ref 232, .int (nI i), .int (nI s), .int (nI t)] τ (fun r σ' => rcY σ σ' n R S C kl a X r) := by
  have hR := hB.1
  have hn := hT.1
  have hS4 := hB.2.1.1
  have hR4 := hR.1
  have hF := hY.1
  obtain ⟨bt, l, c1, c2, c3, c4, c5⟩ := id hrw
  obtain ⟨t', t1, t2, t3, -⟩ := hR.2.2.2.2.2 r dn r1 hdn
  obtain rfl : t = t' := nI_inj (het.symm.trans t2)
  have hft : fN (σ 248 (6 * r + dn)) = t := by rw [het]; exact fN_nI (by omega)
  have hvar := fun u hu => mRo_var (u := u) hT hR r1 ht t3 hu
  have etv : tvs (τ 233) (τ 234) (τ 235) t = tvs (σ 233) (σ 234) (σ 235) t := (mFr_all hT (pat_fr hF) ht).2.2
  have hofn : τ 241 = σ 241 := hF.1 _ (by decide) (by decide)
  unfold kXM
  iterate 2 (refine kX_one rfl ?_)
  refine kX_cal (mr_findVariables L xs (d + 7) τ n bt t c2 ht) rfl (Or.inr rfl) rfl rfl rfl (fun r1' σ1 q1 => ?_)
  obtain ⟨rfl, W, ST, rfl, hl, h24⟩ := q1
  rw [etv] at hl h24 ⊢
  have hmem : ∀ u, u ∈ ddl [] (tvs (σ 233) (σ 234) (σ 235) t) ↔ u ∈ tvs (σ 233) (σ 234) (σ 235) t := fun u => by
    rw [ddl_mem]
    simp
  have hnd := ddl_nd (tvs (σ 233) (σ 234) (σ 235) t) [] List.Pairwise.nil
  have hbl : bls σ r dn = fl (fun u => nbv σ r dn (fN (σ 241 u))) (ddl [] (tvs (σ 233) (σ 234) (σ 235) t)) := by
    unfold bls
    rw [hft]
  generalize ddl [] (tvs (σ 233) (σ 234) (σ 235) t) = vs at *
  have hinj : ∀ u ∈ vs, ∀ v ∈ vs, u ≠ v → σ 241 u ≠ σ 241 v := fun u hu v hv' huv e => by
    obtain ⟨k, so, u1, k6, kv, vv, kk, -⟩ := hvar u ((hmem u).mp hu)
    obtain ⟨k', so', u1', k6', kv', vv', kk', -⟩ := hvar v ((hmem v).mp hv')
    obtain rfl : k = k' := nI_inj (by rw [← kk, ← kk', e])
    exact huv (nI_inj (vv.symm.trans vv'))
  have hnum : ∀ u ∈ vs, u < 200 ∧ ∃ k, k < 6 ∧ σ 241 u = nI k := fun u hu => by
    obtain ⟨k, so, u1, k6, kv, vv, kk, -⟩ := hvar u ((hmem u).mp hu)
    exact ⟨by omega, k, k6, kk⟩
  have hopF : opF (fvS τ W ST (nI vs.length)) s vs vs.length = bls σ r dn := by
    rw [hbl]
    unfold opF
    rw [List.take_length]
    refine fl_congr (fun u hu => ?_)
    obtain ⟨k, so, u1, k6, kv, vv, kk, -⟩ := hvar u ((hmem u).mp hu)
    show τ 265 (6 * s + fN (τ 241 u)) < 0 ↔ _
    rw [bls_neg hT hR ha.2.1 hs r1 r2 r3 hdn hse ht het ((hmem u).mp hu), hofn, kk, fN_nI (by omega), hst.2 s k hs k6]
  have hopM : opM (fvS τ W ST (nI vs.length)) n (bls σ r dn) = min (wyN ((owO σ n r dn).map List.length)) 20001 := by
    unfold opM owO
    rw [List.map_map]
    congr 2
    refine List.map_congr_left (fun u hu => ?_)
    obtain ⟨u1, -, so, s1, s2⟩ := (bls_ok hT hR r1 hdn het ht).2.2.1 u hu
    show cnt (ofs τ u) n = (opL σ (fN (σ 240 u)) n).length
    rw [cnt_opL n (ofs_gS hT hF s2 s1), s2, fN_nI (by omega)]
  iterate 6 (refine kX_one rfl ?_)
  have := mf_rc_open L xs (d + 6) (fvS τ W ST (nI vs.length)) n bt s vs c2 (by omega) rfl hl h24 hnd (by show ∀ u ∈ vs, u < 200 ∧ ∃ k, k < 6 ∧ τ 241 u = nI k; rw [hofn]; exact hnum) (by show ∀ u ∈ vs, ∀ v ∈ vs, u ≠ v → τ 241 u ≠ τ 241 v; rw [hofn]; exact hinj) (nI i) (nI t) (fun r σ' => rcY σ σ' n R S C kl a X r) (fun O hO => ?_) (0, τ 292) ⟨Nat.zero_le _, fun p hp => absurd hp (by simp [opF, fl])⟩
  · refine kX_to _ _ rfl rfl rfl ?_ this
    funext c; unfold fvS va_up; repeat' split
    all_goals first | rfl | omega | (subst_vars; rfl) | (funext j; unfold upd; repeat' split; all_goals first | rfl | omega | (subst_vars; rfl))
  · rw [hopF] at hO ⊢
    rw [hopM]
    have hY1 : mY σ (fvS τ W ST (nI vs.length)) n R S x := mY_fr hT hB hY (mFr_fv τ n W ST (nI vs.length)) ⟨bt, c2⟩
    exact mY_rc_go L xs d σ (va_up (fvS τ W ST (nI vs.length)) 292 O) n b R S C i s r dn t _ kl x a X hT hB ha hs r1 r2 r3 hdn hse ht het rfl hi6 hi hai han (mY_up hT hB hY1 (Or.inr (Or.inr (Or.inl rfl)))) hst ⟨bt, l, c1, c2, c3, c4, c5⟩ hO hXe
