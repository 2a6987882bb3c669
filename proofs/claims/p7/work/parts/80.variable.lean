/-! the reference: one VARIABLE more -/
theorem mI_var {σ σ1 ρ : kS} {n b R S C : Nat} {kl : List Nat} (h : mI σ n b R S C kl) (hG : mGr σ σ1 n) (hr0 : ρ 232 47 = 0) (hF : roF σ1 ρ) (hO : ∀ s, s < S → roO σ1 ρ (fN (σ1 255 s))) (hV : roV σ1 ρ n) (hT1 : mTb σ1 (n + 1) 200) (hT : mTb ρ (n + 1) 200) (hRo : mRo ρ (n + 1) R) (hv : ∀ r, r < R → fN (σ1 244 r) ≤ fN (ρ 244 r)) : mI ρ (n + 1) 200 R S C kl := by
  obtain ⟨h1, h2, h3, h4, h5, h6, h7⟩ := h
  have hn := h1.1
  have hR1 := mGr_Ro h1 hG h2
  have hS1 := mGr_Se h1 hG h3
  have hn1 : n ≤ n + 1 := by omega
  refine ⟨hT, hRo, mSe_up hn1 (ro_Se hn hR1 (Nat.le_refl R) hF hO hV hS1), ?_, ro_Cl (Nat.le_refl R) hF hv (mGr_Cl hG h5), ?_, mAk_up hn1 (ro_Ak hn hR1 hS1 hF hO hV (mGr_Ak h1 h2 h3 hG h7))⟩
  · have := mKn_up hn1 (mGr_Kn h1 hG h4)
    obtain ⟨VS, V, TA, E, ET, SE, CL, OR, SO, ON, x, rfl⟩ := hF
    exact this
  · rcases h6 with h6 | ⟨h6, ds, g1, g2, g3⟩
    · exact Or.inl ((ro_f hF (by decide)).trans ((hG.2.1 _ (by decide)).trans h6))
    · have g1' := mGr_Rn h1 h2 hG g1
      exact Or.inr ⟨(ro_f hF (by decide)).trans ((hG.2.1 _ (by decide)).trans h6), ds, mRn_up hn1 (ro_Rn hT1 hn1 hR1 (Nat.le_refl R) hF hO hV g1'), ro_Bi hR1 hF hO g1' (mGr_Bi h1 h2 hG g1 g2), Or.inl hr0⟩
def vaS (σ : kS) (n r v : Nat) (so as : Int32) : kS := va_up (va_up (va_up (va_up (va_up (va_up σ 239 (upd (σ 239) n (nI r))) 240 (upd (σ 240) n so)) 241 (upd (σ 241) n (nI v))) 245 (upd (σ 245) (6 * r + v) (nI n))) 246 (upd (σ 246) (6 * r + v) as)) 244 (upd (σ 244) r (nI (v + 1)))
theorem mTb_va {σ : kS} {n r v : Nat} {so as : Int32} (h : mTb σ (n + 1) 200) (hn : n < 200) : mTb (vaS σ n r v so as) (n + 1) 200 := by
  obtain ⟨h1, h2, h3, h4, h5, h6, h7⟩ := h
  refine ⟨h1, h2, h3, h4, h5, ⟨fun t ht => ?_, h6.2⟩, h7⟩
  have q := h6.1 t ht
  refine ⟨q.1, tOk_mono (fun _ _ p => p) (fun y hy p => ?_) rfl rfl rfl q.2⟩
  refine ⟨p.1, p.2.elim Or.inl (fun z => Or.inr ⟨z.1, ?_⟩)⟩
  show upd (σ 240) n so y = nI 0
  have ht' : t < n + 1 := by unfold mv at ht; omega
  rw [pk_un (by omega)]
  exact z.2
theorem roF_va (σ : kS) (n r v : Nat) (so as : Int32) : roF σ (vaS σ n r v so as) := by
  refine ⟨upd (σ 244) r (nI (v + 1)), upd (σ 245) (6 * r + v) (nI n), upd (σ 246) (6 * r + v) as, σ 247, σ 248, σ 249, σ 250, upd (σ 239) n (nI r), upd (σ 240) n so, upd (σ 241) n (nI v), σ 232 13, ?_⟩
  funext c; unfold vaS va_up; repeat' split
  all_goals first | rfl | omega | (subst_vars; rfl) | (funext j; unfold upd; repeat' split; all_goals first | rfl | omega | (subst_vars; rfl))
theorem mRo_va {σ : kS} {n b r v R so as : Nat} (hT : mTb σ (n + 1) b) (hR : mRo σ n R) (hn : n < 200) (hk : σ 233 n = nI 3) (hr : r < R) (hv : σ 244 r = nI v) (hv6 : v < 6) (hso : so ≤ 3) (has : as ≤ 2) (h0 : as = 0 → so = 0) (h01 : as = 1 → so = 1 ∨ so = 2) : mRo (vaS σ n r v (nI so) (nI as)) (n + 1) R := by
  obtain ⟨h1, h2, h3, h4, h5, h6⟩ := hR
  have hvn : ∀ r', r' ≠ r → upd (σ 244) r (nI (v + 1)) r' = σ 244 r' := fun r' q => pk_un q
  have hfv : fN (σ 244 r) = v := by rw [hv]; exact fN_nI (by omega)
  have hfv1 : fN (nI (v + 1)) = v + 1 := fN_nI (by omega)
  have hidx : ∀ r' k, r' < R → k < fN (σ 244 r') → 6 * r' + k ≠ 6 * r + v := fun r' k hr' hk' e => by
    obtain ⟨⟨w, hw6, hw⟩, -⟩ := h3 r' hr'
    rw [hw, fN_nI (by omega)] at hk'
    have : r' = r := by omega
    subst this
    have : w = v := nI_inj (hw.symm.trans hv)
    omega
  have hold : ∀ r' k, r' < R → k < fN (σ 244 r') → ∃ t so' as', t < n + 1 ∧ upd (σ 245) (6 * r + v) (nI n) (6 * r' + k) = nI t ∧ σ 233 t = nI 3 ∧ upd (σ 239) n (nI r) t = nI r' ∧ upd (σ 241) n (nI v) t = nI k ∧ so' ≤ 3 ∧ upd (σ 240) n (nI so) t = nI so' ∧ as' ≤ 2 ∧ upd (σ 246) (6 * r + v) (nI as) (6 * r' + k) = nI as' ∧ (as' = 0 → so' = 0) ∧ (as' = 1 → so' = 1 ∨ so' = 2) := fun r' k hr' hk' => by
    obtain ⟨t, so, as, a1, a2, a3, a4, a5, a6, a7, a8, a9⟩ := h4 r' k hr' hk'
    refine ⟨t, so, as, by omega, ?_, a3, ?_, ?_, a6, ?_, a8, ?_, a9.2⟩
    · rw [pk_un (hidx r' k hr' hk')]; exact a2
    · rw [pk_un (by omega)]; exact a4
    · rw [pk_un (by omega)]; exact a5
    · rw [pk_un (by omega)]; exact a7
    · rw [pk_un (hidx r' k hr' hk')]; exact a9.1
  refine ⟨h1, h2, fun r' hr' => ⟨?_, (h3 r' hr').2⟩, fun r' k hr' hk' => ?_, fun t ht hkt => ?_, fun r' e hr' he => ?_⟩
  · show ∃ w, w ≤ 6 ∧ upd (σ 244) r (nI (v + 1)) r' = nI w
    by_cases e : r' = r
    · subst e
      rw [pk_us]
      exact ⟨v + 1, by omega, rfl⟩
    · rw [hvn r' e]
      exact (h3 r' hr').1
  · change k < fN (upd (σ 244) r (nI (v + 1)) r') at hk'
    by_cases e : r' = r ∧ k = v
    · obtain ⟨rfl, rfl⟩ := e
      exact ⟨n, so, as, by omega, pk_us, hk, pk_us, pk_us, hso, pk_us, has, pk_us, h0, h01⟩
    · refine hold r' k hr' ?_
      by_cases e2 : r' = r
      · subst e2
        rw [pk_us, hfv1] at hk'
        rw [hfv]
        omega
      · rw [hvn r' e2] at hk'
        exact hk'
  · by_cases e : t = n
    · subst e
      refine ⟨r, v, hr, ?_, pk_us⟩
      show v < fN (upd (σ 244) r (nI (v + 1)) r)
      rw [pk_us, hfv1]
      omega
    · obtain ⟨r', k, a1, a2, a3⟩ := h5 t (by omega) hkt
      refine ⟨r', k, a1, ?_, ?_⟩
      · show k < fN (upd (σ 244) r (nI (v + 1)) r')
        by_cases e2 : r' = r
        · subst e2
          rw [pk_us, hfv1]
          rw [hfv] at a2
          omega
        · rw [hvn r' e2]
          exact a2
      · show upd (σ 245) (6 * r + v) (nI n) (6 * r' + k) = nI t
        rw [pk_un (hidx r' k a1 a2)]
        exact a3
  · obtain ⟨t, t1, t2, t3, t4⟩ := h6 r' e hr' he
    have hlt : ∀ u ∈ tvs (σ 233) (σ 234) (σ 235) t, u < n := fun u hu => by
      have := (tvs_mem (mTb_num hT) t (by omega) u hu).2.2
      omega
    refine ⟨t, by omega, t2, fun u hu => ?_, fun hs u hu ha => ?_⟩
    · show upd (σ 239) n (nI r) u = nI r'
      have := hlt u hu
      rw [pk_un (by omega)]
      exact t3 u hu
    · change upd (σ 246) (6 * r + v) (nI as) (6 * r' + fN (upd (σ 241) n (nI v) u)) = nI 2 at ha
      have hun := hlt u hu
      rw [show upd (σ 241) n (nI v) u = σ 241 u from pk_un (by omega)] at ha
      obtain ⟨r2, k, a1, a2, a3⟩ := h5 u hun (tvs_mem (mTb_num hT) t (by omega) u hu).2.1
      obtain ⟨t', so', as', b1, b2, b3, b4, b5, -⟩ := h4 r2 k a1 a2
      obtain rfl : u = t' := nI_inj (a3.symm.trans b2)
      obtain rfl : r2 = r' := nI_inj (b4.symm.trans (t3 u hu))
      obtain ⟨⟨w, hw6, hw⟩, -⟩ := h3 r2 a1
      have hk6 : k < 6 := by rw [hw, fN_nI (by omega)] at a2; omega
      have e5 : fN (σ 241 u) = k := by rw [b5]; exact fN_nI (by omega)
      rw [e5, pk_un (hidx r2 k a1 a2)] at ha
      exact t4 hs u hu (by rw [e5]; exact ha)

set_option maxRecDepth 100000 in
set_option maxHeartbeats 4000000 in
theorem mp_variable (L : Nat) (xs : Nat → Int32) (d : Nat) (σ : kS) (n b R S C : Nat) (kl : List Nat) (x y z : Int32) (h : mI σ n b R S C kl) : kXM kT L xs (d + 5) 163 [.ref 232, .int x, .int y, .int z] σ (fun r σ' => (∃ x, r = some (.int x)) ∧ mAfter σ σ' R) := by
  have h1 := h.1
  have h2 := h.2.1
  have h3 := h.2.2.1
  have hn := h1.1
  have hR4 := h2.1
  unfold kXM
  repeat refine kX_one rfl ?_
  refine kX_cal (mr_isRole L xs (d + 3) σ R x h2.2.1 (by omega)) rfl (Or.inr rfl) rfl rfl rfl (fun r1 σ1 q1 => ?_)
  obtain ⟨rfl, rfl⟩ := q1
  repeat refine kX_one rfl ?_
  refine kX_if (fun q => ?_) (fun q => ?_)
  · obtain ⟨r, hr, rfl⟩ := isB_ne.mp (qne q)
    obtain ⟨⟨v, hv6, hv⟩, ev, he6, hev⟩ := h2.2.2.1 r hr
    have hfv : fN (σ 244 r) = v := by rw [hv]; exact fN_nI (by omega)
    have key : ∀ as so, as ≤ 2 → so ≤ 3 → (as = 0 → so = 0) → (as = 1 → so = 1 ∨ so = 2) → kX kT L xs (d + 5) 163 52 [(0, .ref 232), (1, .int (nI r)), (2, .int (nI as)), (3, .int (nI so))] [] σ (fun r σ' => (∃ x, r = some (.int x)) ∧ mAfter σ σ' R) := by
      intro as so has hso h0 h01
      repeat refine kX_one rfl ?_
      refine kX_baldN rfl rfl (by decide) (r) (by first | rfl | decide) (by omega) ?_
      repeat refine kX_one rfl ?_
      refine kX_if (fun q => ?_) (fun q => ?_)
      · have hcl : σ 250 r = 0 := qeq q
        repeat refine kX_one rfl ?_
        refine kX_ialdV rfl rfl (by decide) (r) (by first | rfl | decide) (by omega) (hv) ?_
        repeat refine kX_one rfl ?_
        refine kX_if (fun q => ?_) (fun q => ?_)
        · repeat refine kX_one rfl ?_
          refine kX_ret (i := .ireturn) (len := 1) rfl (Or.inr rfl) rfl (⟨⟨_, rfl⟩, mAfter_same h⟩)
        · have hv6' : v ≠ 6 := fun e => qeqF q (by rw [e]; rfl)
          repeat refine kX_one rfl ?_
          refine kX_if (fun q => ?_) (fun q => ?_)
          · have hn200 : n ≠ 200 := fun e => qne q (by rw [h1.2.2.2.1, e]; decide)
            repeat refine kX_one rfl ?_
            refine kX_cal (mr_last L xs (d + 1) σ n b 3 (-1) (-1) 0 0 h1 (by omega) (Or.inl ⟨by omega, rfl, rfl⟩) (by omega) (by omega) (by omega) (show nI 1 ≤ nI 24 by decide)) rfl (Or.inr rfl) rfl rfl rfl (fun r1 σ1 q1 => ?_)
            obtain ⟨rfl, hnew⟩ := q1
            have hG := mGr_new hnew
            have hr0 := mNw_rit hnew
            have hT1 : mTb σ1 (n + 1) 200 := by
              obtain ⟨_, _, _, _, _, _, q⟩ := hnew
              exact q
            have hk3 : σ1 233 n = nI 3 := by
              obtain ⟨_, _, _, _, _, rfl, _⟩ := hnew
              exact pk_us
            have c := fun c (hc : c ∉ rowC) => hG.1 c hc
            have hv1 : σ1 244 r = nI v := by rw [c 244 (by decide)]; exact hv
            repeat refine kX_one rfl ?_
            refine kX_ialdV rfl rfl (by decide) (r) (by first | rfl | decide) (by omega) (hv1) ?_
            repeat refine kX_one rfl ?_
            refine kX_iastN rfl rfl (by decide) (n) (by first | rfl | decide) (by omega) ?_
            repeat refine kX_one rfl ?_
            refine kX_iastN rfl rfl (by decide) (n) (by first | rfl | decide) (by omega) ?_
            repeat refine kX_one rfl ?_
            refine kX_iastN rfl rfl (by decide) (n) (by first | rfl | decide) (by omega) ?_
            repeat refine kX_one rfl ?_
            refine kX_iastN rfl rfl (by decide) (6 * r + v) (ix6 r v) (by omega) ?_
            repeat refine kX_one rfl ?_
            refine kX_iastN rfl rfl (by decide) (6 * r + v) (ix6 r v) (by omega) ?_
            repeat refine kX_one rfl ?_
            refine kX_ialdV rfl rfl (by decide) (r) (by first | rfl | decide) (by omega) (hv1) ?_
            repeat refine kX_one rfl ?_
            refine kX_iastN rfl rfl (by decide) (r) (by first | rfl | decide) (by omega) ?_
            repeat refine kX_one rfl ?_
            refine kX_st (vaS σ1 n r v (nI so) (nI as)) ?_ ?_
            · rw [vaS, nI_succ v]
              rfl
            have hF := roF_va σ1 n r v (nI so) (nI as)
            refine kX_ret (i := .ireturn) (len := 1) rfl (Or.inr rfl) rfl (⟨⟨_, rfl⟩, mLow_trans (mLow_gr hG) (mLow_ro hF), n + 1, 200, S, C, kl, mI_var h hG hr0 hF (fun s hs => ?_) (fun t ht => ⟨pk_un (by omega), pk_un (by omega)⟩) hT1 (mTb_va hT1 (by omega)) (mRo_va hT1 (mGr_Ro h1 hG h2) (by omega) hk3 hr hv1 (by omega) hso has h0 h01) (fun r' hr' => ?_)⟩)
            · obtain ⟨r', r1, r2, r3, -⟩ := h3.2.2 s hs
              rw [c 255 (by decide), r2, fN_nI (by omega)]
              have hne : r' ≠ r := fun e => r3 (by rw [e]; exact hcl)
              exact ⟨pk_un hne, rfl, rfl, fun k hk => ⟨pk_un (by omega), pk_un (by omega), rfl, rfl⟩⟩
            · show _ ≤ fN (upd (σ1 244) r (nI (v + 1)) r')
              by_cases e : r' = r
              · subst e
                rw [pk_us, hv1, fN_nI (by omega), fN_nI (by omega)]
                omega
              · rw [pk_un e]
                exact Nat.le_refl _
          · repeat refine kX_one rfl ?_
            refine kX_ret (i := .ireturn) (len := 1) rfl (Or.inr rfl) rfl (⟨⟨_, rfl⟩, mAfter_same h⟩)
      · repeat refine kX_one rfl ?_
        refine kX_ret (i := .ireturn) (len := 1) rfl (Or.inr rfl) rfl (⟨⟨_, rfl⟩, mAfter_same h⟩)
    have k35 : kX kT L xs (d + 5) 163 35 [(0, .ref 232), (1, .int (nI r)), (2, .int y), (3, .int z)] [] σ (fun r σ' => (∃ x, r = some (.int x)) ∧ mAfter σ σ' R) := by
      repeat refine kX_one rfl ?_
      refine kX_if (fun q => ?_) (fun q => ?_)
      · repeat refine kX_one rfl ?_
        refine kX_ret (i := .ireturn) (len := 1) rfl (Or.inr rfl) rfl (⟨⟨_, rfl⟩, mAfter_same h⟩)
      · obtain rfl : y = nI 2 := qneF q
        repeat refine kX_one rfl ?_
        refine kX_cal (mr_in L xs (d + 4) σ _ _ _) rfl (Or.inr rfl) rfl rfl rfl (fun r1 σ1 q1 => ?_)
        obtain ⟨rfl, rfl⟩ := q1
        rw [isB_dec]
        repeat refine kX_one rfl ?_
        refine kX_if (fun q => ?_) (fun q => ?_)
        · repeat refine kX_one rfl ?_
          refine kX_ret (i := .ireturn) (len := 1) rfl (Or.inr rfl) rfl (⟨⟨_, rfl⟩, mAfter_same h⟩)
        · obtain ⟨k, k1, k2, rfl⟩ := in_R (lo := 0) (hi := 3) (by omega) (by omega) (isB_ne.mp (qeqF q)).1 (isB_ne.mp (qeqF q)).2
          exact key 2 k (by omega) k2 (by omega) (by omega)
    have k18 : kX kT L xs (d + 5) 163 18 [(0, .ref 232), (1, .int (nI r)), (2, .int y), (3, .int z)] [] σ (fun r σ' => (∃ x, r = some (.int x)) ∧ mAfter σ σ' R) := by
      repeat refine kX_one rfl ?_
      refine kX_if (fun q => ?_) (fun q => ?_)
      · exact k35
      · obtain rfl : y = nI 1 := qneF q
        repeat refine kX_one rfl ?_
        refine kX_cal (mr_in L xs (d + 4) σ _ _ _) rfl (Or.inr rfl) rfl rfl rfl (fun r1 σ1 q1 => ?_)
        obtain ⟨rfl, rfl⟩ := q1
        rw [isB_dec]
        repeat refine kX_one rfl ?_
        refine kX_if (fun q => ?_) (fun q => ?_)
        · obtain ⟨k, k1, k2, rfl⟩ := in_R (lo := 1) (hi := 2) (by omega) (by omega) (isB_ne.mp (qne q)).1 (isB_ne.mp (qne q)).2
          exact key 1 k (by omega) (by omega) (by omega) (by omega)
        · exact k35
    repeat refine kX_one rfl ?_
    refine kX_if (fun q => ?_) (fun q => ?_)
    · exact k18
    · obtain rfl : y = nI 0 := qneF q
      repeat refine kX_one rfl ?_
      refine kX_if (fun q => ?_) (fun q => ?_)
      · obtain rfl : z = nI 0 := qeq q
        exact key 0 0 (by omega) (by omega) (by omega) (by omega)
      · exact k18
  · repeat refine kX_one rfl ?_
    refine kX_ret (i := .ireturn) (len := 1) rfl (Or.inr rfl) rfl (⟨⟨_, rfl⟩, mAfter_same h⟩)
