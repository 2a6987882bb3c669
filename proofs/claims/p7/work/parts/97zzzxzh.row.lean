/-! alike: row -/
def nuOk (τ : kS) (n g : Nat) : Prop := n ≤ g ∧ vsz (kTv τ g) ≤ 24 ∧ n + (poT (knN τ n) (kTv τ g) []).length ≤ 200
def nuP (τ : kS) (n g : Nat) (r : Option Value) (τ' : kS) : Prop := (∃ z, r = some (.int z)) ∧ ∃ W, (¬ nuOk τ n g ∧ τ' = va_up τ 194 W) ∨ (nuOk τ n g ∧ gnQ (va_up τ 194 W) τ' n (poT (knN τ n) (kTv τ g) []))
set_option maxRecDepth 100000 in
set_option maxHeartbeats 4000000 in
theorem mf_giveSame (L : Nat) (xs : Nat → Int32) (d : Nat) (τ : kS) (n u g : Nat) (y : Int32) (hB : nB τ 186 200 n u) (hg : g < n) : kXM kT L xs (d + 3) 58 [.ref 186, .int (nI g), .int y] τ (fun r τ' => r = some (.int (nI g)) ∧ τ = τ') := by
  have hn := hB.2.1
  have hu := hB.2.2.1
  unfold kXM
  iterate 2 (refine kX_one rfl ?_)
  refine kX_cal (mc_unn L xs (d + 1) τ 186 200 n u (nI g) hB) rfl (Or.inr rfl) rfl rfl rfl (fun r1 σ1 q1 => ?_)
  obtain ⟨rfl, rfl⟩ := q1
  repeat refine kX_one rfl ?_
  refine kX_ifT (decide_eq_true (isB_F (fun ⟨g', z1, z2, z3⟩ => by have := nI_inj z3; omega))) ?_
  iterate 1 (refine kX_one rfl ?_)
  refine kX_ret (i := .ireturn) (len := 1) rfl (Or.inr rfl) rfl (⟨rfl, rfl⟩)
set_option maxRecDepth 100000 in
set_option maxHeartbeats 4000000 in
theorem mf_numbered (L : Nat) (xs : Nat → Int32) (d : Nat) (τ : kS) (n u m g : Nat) (l : rwT) (h : iE τ 186 200 n u m l) (hT : cT τ n) (hC : cCn τ n) (hG : gR τ n) (hg : kV n 200 u g) (hgd : kGd τ g) (hsz : vsz (kTv τ g) ≤ 576) : kXM kT L xs (d + 55) 143 [.ref 0, .ref 186, .int (nI g)] τ (nuP τ n g) := by
  have hn := h.2.1
  have hB := iE_nB h
  have hu := hB.2.2.1
  have hgl := iE_lt h hg
  have hdp : kDp τ g ≤ 47 := by
    rcases hg with q | q
    · have := h.2.2.2.2.2.2.2.2.1 g q
      omega
    · exact (h.2.2.2.2.1.2.2.2.2.1 g q.1 q.2).2.2
  have hpl : (poT (knN τ n) (kTv τ g) []).length ≤ 576 := by
    have := po_tab h g hg [] cloK_nil List.Pairwise.nil
    have := nd_sub (poT (knN τ n) (kTv τ g) []) ((List.range u).map (fun i => kTv τ (200 + i))) this.1.2 (fun t ht => by
      rcases this.2.1 t ht with q | ⟨x, x1, x2, -, rfl⟩
      · exact absurd q List.not_mem_nil
      · exact List.mem_map.mpr ⟨x - 200, List.mem_range.mpr (by omega), by rw [show 200 + (x - 200) = x by omega]⟩)
    rw [List.length_map, List.length_range] at this
    omega
  have hzg : τ 5 g = nI (vsz (kTv τ g)) := by
    have e : vsz (kTv τ g) = tsz (τ 2) (τ 3) (τ 4) g := vsz_tvl (iE_V h) g hg
    rw [e]
    exact h.2.2.2.2.1.2.2.2.1.2.1 g hg
  unfold kXM
  iterate 3 (refine kX_one rfl ?_)
  refine kX_top (hT.2.1) ?_
  iterate 2 (refine kX_one rfl ?_)
  refine kX_cal (mf_missingFor L xs (d + 51) τ n u m g l h hg) rfl (Or.inr rfl) rfl rfl rfl (fun r1 σ1 q1 => ?_)
  obtain ⟨rfl, W, rfl⟩ := q1
  iterate 1 (refine kX_one rfl ?_)
  refine kX_top (nI_add n (poT (knN τ n) (kTv τ g) []).length) ?_
  iterate 1 (refine kX_one rfl ?_)
  repeat refine kX_one rfl ?_
  refine kX_if (fun q => ?_) (fun q => ?_)
  · have q := qle q (n + (poT (knN τ n) (kTv τ g) []).length) 200
    iterate 4 (refine kX_one rfl ?_)
    refine kX_ialdV rfl rfl (by decide) (g) (by first | rfl | decide) (hgl) (hzg) ?_
    iterate 1 (refine kX_one rfl ?_)
    repeat refine kX_one rfl ?_
    refine kX_if (fun q2 => ?_) (fun q2 => ?_)
    · have q2 := qle q2 (vsz (kTv τ g)) 24
      iterate 3 (refine kX_one rfl ?_)
      by_cases hgn : g < n
      · have r2 := mf_giveSame L xs (d + 51) (va_up τ 194 W) n u g (nI 0) hB hgn
        refine kX_cal r2 rfl (Or.inr rfl) rfl rfl rfl (fun r1 σ1 q1 => ?_)
        obtain ⟨rfl, rfl⟩ := q1
        refine kX_ret (i := .ireturn) (len := 1) rfl (Or.inr rfl) rfl (⟨⟨_, rfl⟩, W, Or.inl ⟨fun z => by have := z.1; omega, rfl⟩⟩)
      · have hE : iE (va_up τ 194 W) 186 200 n u m l := h
        have hTW : cT (va_up τ 194 W) n := cT_eq (σ := τ) rfl rfl (fun _ _ => ⟨rfl, rfl, rfl, rfl, rfl, rfl⟩) hT
        refine kX_cal (mf_giveNumber L xs (va_up τ 194 W) n u m l hE 49 d 0 (va_up τ 194 W) g [] rfl (by have e : kDp (va_up τ 194 W) g = kDp τ g := rfl; omega) (gn_0 hE hTW hC hG) cloK_nil List.Pairwise.nil hg hgd q) rfl (Or.inr rfl) rfl rfl rfl (fun r1 ω q1 => ?_)
        obtain ⟨t, rfl, t1, t2, t3⟩ := q1
        refine kX_ret (i := .ireturn) (len := 1) rfl (Or.inr rfl) rfl (⟨⟨_, rfl⟩, W, Or.inr ⟨⟨by omega, q2, q⟩, t3⟩⟩)
    · have q2 := qleF q2 (vsz (kTv τ g)) 24
      repeat refine kX_one rfl ?_
      refine kX_ret (i := .ireturn) (len := 1) rfl (Or.inr rfl) rfl (⟨⟨_, rfl⟩, W, Or.inl ⟨fun z => by have := z.2.1; omega, rfl⟩⟩)
  · have q := qleF q (n + (poT (knN τ n) (kTv τ g) []).length) 200
    repeat refine kX_one rfl ?_
    refine kX_ret (i := .ireturn) (len := 1) rfl (Or.inr rfl) rfl (⟨⟨_, rfl⟩, W, Or.inl ⟨fun z => by have := z.2.2; omega, rfl⟩⟩)
/-- the same trees, the same cells -/
theorem tv_cells {τ ω : kS} {n b : Nat} {AG : Nat → Prop} (hV : ∀ t, t < n → t < 100000 ∧ tOk (fun t => t < n) AG (τ 2) (τ 3) (τ 4) t) (hM : mTb ω n b) (he : ∀ t, t < n → kTv τ t = mtv ω t) {t : Nat} (ht : t < n) (hk4 : 3 < fN (τ 2 t)) : τ 2 t = ω 233 t ∧ τ 3 t = ω 234 t ∧ τ 4 t = ω 235 t ∧ 3 < fN (ω 233 t) := by
  have hn := hM.1
  have hV2 := mTb_num hM
  have hin : ∀ a b, a < n → b < n → mtv ω a = mtv ω b → a = b := fun a b ha hb e => mtv_inj hM (Or.inl ha) (Or.inl hb) e
  have e := he t ht
  rcases (hV t ht).2 with ⟨k, h3, hk, -, -⟩ | ⟨k, p, z, h3, hk, hp, hz, h4, h5, h6, h7⟩ | ⟨k, p, h3, hk, hp, hz, h4, h6⟩
  · rw [hk, fN_nI (by omega)] at hk4
    omega
  · have e1 : kTv τ t = vnd k (kTv τ p) (some (kTv τ z)) := tvl_2 hV hk hp hz (by omega) (by omega) h4 h5 h6 h7
    rcases (hV2 t ht).2 with ⟨k', z3, zk, zf, zs⟩ | ⟨k', a', b', z3, zk, zx, zy, z4, z5, z6, z7⟩ | ⟨k', a', z3, zk, zx, zy, z4, z6⟩
    · have e2 : mtv ω t = .arg t := tvl_0 zk z3
      rw [← e, e1] at e2
      unfold vnd at e2
      simp only at e2
      split at e2
      · exact absurd e2 (by simp)
      · split at e2
        · exact absurd e2 (by simp)
        · split at e2 <;> exact absurd e2 (by simp)
    · have e2 : mtv ω t = vnd k' (mtv ω a') (some (mtv ω b')) := tvl_2 hV2 zk zx zy (by omega) (by omega) z4 z5 z6 z7
      rw [← e, e1, he p h6, he z h7] at e2
      obtain ⟨v1, v2, v3⟩ := vnd_inj2 (by omega) (by omega) e2
      subst v1
      obtain rfl := hin _ _ h6 z6 v2
      obtain rfl := hin _ _ h7 z7 v3
      exact ⟨hk.trans zk.symm, hp.trans zx.symm, hz.trans zy.symm, by rw [zk, fN_nI (by omega)]; omega⟩
    · have e2 : mtv ω t = vnd k' (mtv ω a') none := tvl_1 hV2 zk zx zy (by omega) (by omega) z4 z6
      rw [← e, e1] at e2
      exact absurd e2 (vnd_21 (by omega) (by omega))
  · have e1 : kTv τ t = vnd k (kTv τ p) none := tvl_1 hV hk hp hz (by omega) (by omega) h4 h6
    rcases (hV2 t ht).2 with ⟨k', z3, zk, zf, zs⟩ | ⟨k', a', b', z3, zk, zx, zy, z4, z5, z6, z7⟩ | ⟨k', a', z3, zk, zx, zy, z4, z6⟩
    · have e2 : mtv ω t = .arg t := tvl_0 zk z3
      rw [← e, e1] at e2
      unfold vnd at e2
      simp only at e2
      split at e2 <;> exact absurd e2 (by simp)
    · have e2 : mtv ω t = vnd k' (mtv ω a') (some (mtv ω b')) := tvl_2 hV2 zk zx zy (by omega) (by omega) z4 z5 z6 z7
      rw [← e, e1] at e2
      exact absurd e2.symm (vnd_21 (by omega) (by omega))
    · have e2 : mtv ω t = vnd k' (mtv ω a') none := tvl_1 hV2 zk zx zy (by omega) (by omega) z4 z6
      rw [← e, e1, he p h6] at e2
      obtain ⟨v1, v2⟩ := vnd_inj1 (by omega) (by omega) e2
      subst v1
      obtain rfl := hin _ _ h6 z6 v2
      exact ⟨hk.trans zk.symm, hp.trans zx.symm, hz.trans zy.symm, by rw [zk, fN_nI (by omega)]; omega⟩
/-- TERMS more on both sides: τ behind the class, ω behind the reference -/
theorem bJ_many {σ τ ω : kS} {n b R S C m : Nat} {kl : List Nat} {P : List Jvm.Term} (h : aJ σ n b R S C kl m) (hP : 0 < P.length) (hq : gnQ σ τ n P) (hI : mI ω (n + P.length) 200 R S C kl) (hG : mGr τ ω n) (ht : ∀ j (h : j < P.length), mtv ω (n + j) = P[j]'h) : bJ m ω := by
  obtain ⟨q1, q2, q3, q4, q5, q6, q7, q8⟩ := hq
  obtain ⟨h1, h2, h3, h4⟩ := h
  have hn := q1.1
  have hi := cGr_hi q3
  have hL : mLow τ ω := mLow_gr hG
  have hk : ∀ u, u < n → ω 233 u = σ 233 u ∧ ω 234 u = σ 234 u ∧ ω 235 u = σ 235 u := fun u hu => by
    have := hG.2.2 u hu
    rw [hi 233 (by decide), hi 234 (by decide), hi 235 (by decide)] at this
    exact this
  have hc : ∀ c, 232 < c → c ∉ rowC → ω c = σ c := fun c c1 c2 => (hG.1 c c2).trans (hi c (by omega))
  have hFG : fG σ ω n := by
    refine ⟨fun c c1 c2 _ _ _ _ => hc c c1 c2, fun j hj => (hG.2.1 j hj).trans (by rw [hi 232 (by decide)]), fun u hu => ⟨(hk u hu).1, (hk u hu).2.1, (hk u hu).2.2, by rw [hc 240 (by decide) (by decide)], by rw [hc 241 (by decide) (by decide)], by rw [hc 238 (by decide) (by decide)]⟩, fun c c1 c2 => (hL c c2).trans (q3.1 c (fun q => by have := tC_lt q; omega))⟩
  have hTO : ∀ t, t < n → kTv τ t = kTv σ t := fun t ht => tA_congr (fun z hz => by
    obtain ⟨a, b', c, -⟩ := h3.1 z hz
    refine ⟨(mTb_num h1.1 z hz).1, tOk_mono (AG' := kAG σ n) (fun x _ q => q) (fun x _ q => ⟨q.1, ?_⟩) a b' c (mTb_num h1.1 z hz).2⟩
    have hx := h3.1 x q.1
    rcases q.2 with e | e
    · exact Or.inl (hx.1.trans e)
    · exact Or.inr ⟨hx.1.trans e.1, (hx.2.2.2.2.2.2 e.1).2.1.trans e.2⟩) (fun z hz => by obtain ⟨a, b, c, -⟩ := q4 z hz; exact ⟨a, b, c, rfl⟩) t ht
  have hMO : ∀ t, t < n → mtv ω t = mtv σ t := fun t ht => tA_congr (mTb_num h1.1) (fun z hz => ⟨(hk z hz).1, (hk z hz).2.1, (hk z hz).2.2, rfl⟩) t ht
  have he : ∀ t, t < n + P.length → kTv τ t = mtv ω t := fun t htn => by
    by_cases q : t < n
    · rw [hTO t q, hMO t q]
      exact aT_tv h1.1 h3.1 q
    · obtain ⟨j, rfl⟩ : ∃ j, t = n + j := ⟨t - n, by omega⟩
      rw [q7 j (by omega), ht j (by omega)]
  have hcell : ∀ t, t < n + P.length → τ 2 t = ω 233 t ∧ τ 3 t = ω 234 t ∧ τ 4 t = ω 235 t := fun t htn => by
    by_cases q : t < n
    · obtain ⟨a, b', c, -⟩ := h3.1 t q
      obtain ⟨a2, b2, c2, -⟩ := q4 t q
      rw [a2, b2, c2, (hk t q).1, (hk t q).2.1, (hk t q).2.2]
      exact ⟨a, b', c⟩
    · obtain ⟨a, b', c, -⟩ := tv_cells q5.1 hI.1 he htn (q8 t (by omega) htn).1
      exact ⟨a, b', c⟩
  refine ⟨n + P.length, 200, R, S, C, kl, hI, cJ_low hL (cJ_gr h2 q3 (by omega) q1), ⟨fun t htn => ?_, ?_⟩, aB_gr h1 h2 hFG (by omega) hn h4⟩
  · by_cases q : t < n
    · obtain ⟨g1, g2, g3, g4, g5, g6, g7, g8, g9⟩ := q4 t q
      have hsg := mTb_sg h1.1 hI.1 (by omega) hk q
      have := h3.1 t q
      unfold aT1 at this ⊢
      rw [hL 2 (by decide), hL 3 (by decide), hL 4 (by decide), hL 5 (by decide), hL 8 (by decide), hL 9 (by decide), hL 10 (by decide), hL 11 (by decide), hL 12 (by decide), g1, g2, g3, g4, g5, g6, g7, g8, g9, (hk t q).1, (hk t q).2.1, (hk t q).2.2, hsg.1, hsg.2, hc 240 (by decide) (by decide), hc 241 (by decide) (by decide), hc 238 (by decide) (by decide), hc 239 (by decide) (by decide)]
      exact this
    · obtain ⟨a, b', c, k4⟩ := tv_cells q5.1 hI.1 he htn (q8 t (by omega) htn).1
      have hsz : tsz (τ 2) (τ 3) (τ 4) t = tsz (ω 233) (ω 234) (ω 235) t := by
        unfold tsz
        exact tA_congr (mTb_num hI.1) (fun z hz => ⟨(hcell z hz).1, (hcell z hz).2.1, (hcell z hz).2.2, rfl⟩) t htn
      have hgd : tgd (τ 2) (τ 3) (τ 4) t = tgd (ω 233) (ω 234) (ω 235) t := tA_congr (mTb_num hI.1) (fun z hz => ⟨(hcell z hz).1, (hcell z hz).2.1, (hcell z hz).2.2, by rw [(hcell z hz).1]⟩) t htn
      have hg1 := (q8 t (by omega) htn).2
      unfold kGd at hg1
      rw [hgd] at hg1
      have hk3 : ∀ k, k ≤ 3 → ω 233 t ≠ nI k := fun k hk e => by
        rw [e, fN_nI (by omega)] at k4
        omega
      unfold aT1
      rw [hL 2 (by decide), hL 3 (by decide), hL 4 (by decide), hL 5 (by decide), hL 8 (by decide)]
      refine ⟨a, b', c, ?_, ?_, fun e => absurd e (hk3 0 (by decide)), fun e => absurd e (hk3 3 (by decide))⟩
      · rw [q5.2.1 t htn, hsz]
        exact (hI.1.2.2.2.2.2.1.2.1 t (Or.inl htn)).symm
      · rw [q6 t htn, isB_T (q8 t (by omega) htn).2, hI.1.2.2.2.2.2.2.1 t (Or.inl htn), hg1]
        rfl
  · unfold cCn cpt at q2 ⊢
    rw [hL 2 (by decide), hL 3 (by decide), hL 4 (by decide), hL 7 (by decide), hL 6 (by decide)]
    exact q2
