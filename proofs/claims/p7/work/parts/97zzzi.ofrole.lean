/-! alike: ofRole -/
theorem fm_ok2 : ∀ j : Fin 36, 10 ≤ j.1 → jmmv 2 (nI j.1) (Int8.ofInt 10).toInt32 = nI (j.1 % 10) := by decide +kernel
noncomputable def orN (σ : kS) (r j : Nat) : Int32 := if j = 0 then σ 244 r else if j = 1 then σ 247 r else if j = 2 then isB (σ 250 r ≠ 0) else if j < 10 ∨ 5 < j % 10 then -2 else if j / 10 = 3 then (if j % 10 < fN (σ 244 r) then σ 246 (6 * r + j % 10) else -6) else if fN (σ 247 r) ≤ j % 10 then -6 else if j / 10 = 1 then σ 248 (6 * r + j % 10) else isB (σ 249 (6 * r + j % 10) ≠ 0)
noncomputable def orA (σ : kS) (R : Nat) (x w : Int32) : Int32 := cit (isN x R) (cit (isN w 36) (orN σ (fN x) (fN w)) (-2)) (-1)
theorem orA_j {σ : kS} {R r j : Nat} (hr : r < R) (hR : R ≤ 4) (hj : j < 36) : orA σ R (nI r) (nI j) = orN σ r j := by
  unfold orA
  rw [cit_T ⟨r, hr, rfl⟩, cit_T ⟨j, hj, rfl⟩, fN_nI (by omega), fN_nI (by omega)]
theorem orA_2 {σ : kS} {R r : Nat} {w : Int32} (hr : r < R) (hR : R ≤ 4) (h : ∀ j, j < 36 → w = nI j → 3 ≤ j ∧ (j < 10 ∨ 5 < j % 10)) : orA σ R (nI r) w = -2 := by
  by_cases hw : isN w 36
  · obtain ⟨j, j1, rfl⟩ := hw
    obtain ⟨h1, h2⟩ := h j j1 rfl
    rw [orA_j hr hR j1]
    unfold orN
    rw [if_neg (by omega), if_neg (by omega), if_neg (by omega), if_pos h2]
  · unfold orA
    rw [cit_T ⟨r, hr, rfl⟩, cit_F hw]
theorem orN_3 {σ : kS} {r j : Nat} (h1 : 30 ≤ j) (h2 : j ≤ 35) : orN σ r j = if j % 10 < fN (σ 244 r) then σ 246 (6 * r + j % 10) else -6 := by
  unfold orN
  rw [if_neg (by omega), if_neg (by omega), if_neg (by omega), if_neg (by omega), if_pos (by omega)]
theorem orN_e {σ : kS} {r j : Nat} (h1 : 10 ≤ j) (h2 : j < 30) (h3 : j % 10 ≤ 5) : orN σ r j = if fN (σ 247 r) ≤ j % 10 then -6 else if j / 10 = 1 then σ 248 (6 * r + j % 10) else isB (σ 249 (6 * r + j % 10) ≠ 0) := by
  unfold orN
  rw [if_neg (by omega), if_neg (by omega), if_neg (by omega), if_neg (by omega), if_neg (by omega)]
set_option maxRecDepth 100000 in
set_option maxHeartbeats 4000000 in
theorem kt_ofRole (L : Nat) (xs : Nat → Int32) (d : Nat) (σ : kS) (n R S C : Nat) (x w : Int32) (h : cJ σ n R S C) (hA : aR σ R) : kXM kT L xs (d + 2) 137 [.ref 0, .int x, .int w] σ (fun r σ' => r = some (.int (orA σ R x w)) ∧ σ = σ') := by
  have hR := h.2.1
  have hR4 := hR.1
  unfold kXM
  iterate 3 (refine kX_one rfl ?_)
  refine kX_cal (mc_hasRole L xs d σ R x hR4 hR.2.1) rfl (Or.inr rfl) rfl rfl rfl (fun r1 σ1 q1 => ?_)
  obtain ⟨rfl, rfl⟩ := q1
  repeat refine kX_one rfl ?_
  refine kX_if (fun q => ?_) (fun q => ?_)
  · obtain ⟨r, hr, rfl⟩ := isB_ne.mp (qne q)
    have hr4 : r < 4 := by omega
    obtain ⟨v, ev, v1, e1, v2, e2, so1, ev1⟩ := hR.2.2 r hr
    obtain ⟨a1, a2, a3, a4, a5⟩ := hA r hr
    have ev' : fN (σ 244 r) = v := by rw [← a1, v2, fN_nI (by omega)]
    have ee' : fN (σ 247 r) = ev := by rw [← a2, e2, fN_nI (by omega)]
    have k89 : ∀ y : Int32, orA σ R (nI r) w = -2 → kX kT L xs (d + 2) 137 89 [(4, .int y), (3, .ref (23 + 35 * r)), (0, .ref 0), (1, .int (nI r)), (2, .int w)] [] σ (fun q σ' => q = some (.int (orA σ R (nI r) w)) ∧ σ = σ') := by
      intro y hq
      repeat refine kX_one rfl ?_
      refine kX_ret (i := .ireturn) (len := 1) rfl (Or.inr rfl) rfl (⟨rV hq.symm, rfl⟩)
    have k63 : (∀ j, j < 3 → w ≠ nI j) → kX kT L xs (d + 2) 137 63 [(3, .ref (23 + 35 * r)), (0, .ref 0), (1, .int (nI r)), (2, .int w)] [] σ (fun q σ' => q = some (.int (orA σ R (nI r) w)) ∧ σ = σ') := by
      intro hn3
      iterate 6 (refine kX_one rfl ?_)
      repeat refine kX_one rfl ?_
      refine kX_if (fun q2 => ?_) (fun q2 => ?_)
      · have q2 : w < 10 := of_decide_eq_true q2
        refine kX_lv _ rfl rfl rfl (k89 _ (orA_2 hr hR4 (fun j j1 hj => ?_)))
        have : ¬ j < 3 := fun z => hn3 j z hj
        rw [hj, Int32.lt_iff_toInt_lt, nI_toInt (by omega)] at q2
        have e2 : (10 : Int32).toInt = 10 := rfl
        omega
      · have q2 : ¬ w < 10 := of_decide_eq_false q2
        iterate 2 (refine kX_one rfl ?_)
        repeat refine kX_one rfl ?_
        refine kX_if (fun q3 => ?_) (fun q3 => ?_)
        · have q3 : 35 < w := of_decide_eq_true q3
          refine kX_lv _ rfl rfl rfl (k89 _ (orA_2 hr hR4 (fun j j1 hj => ?_)))
          exfalso
          rw [hj, Int32.lt_iff_toInt_lt, nI_toInt (by omega)] at q3
          have e2 : (35 : Int32).toInt = 35 := rfl
          omega
        · have q3 : ¬ 35 < w := of_decide_eq_false q3
          obtain ⟨j, j1, rfl⟩ := nI_of (x := w) (fun z => q2 (by
            rw [Int32.lt_iff_toInt_lt] at z ⊢
            have e1 : (0 : Int32).toInt = 0 := rfl
            have e2 : (10 : Int32).toInt = 10 := rfl
            omega))
          have j2 : 10 ≤ j ∧ j ≤ 35 := by
            rw [Int32.lt_iff_toInt_lt, nI_toInt j1] at q2 q3
            have e1 : (35 : Int32).toInt = 35 := rfl
            have e2 : (10 : Int32).toInt = 10 := rfl
            omega
          have hk2 := fm_ok2 ⟨j, by omega⟩ j2.1
          simp only at hk2
          have eA := orA_j (σ := σ) hr hR4 (show j < 36 by omega)
          iterate 1 (refine kX_one rfl ?_)
          refine kX_top (hk2) ?_
          iterate 1 (refine kX_one rfl ?_)
          repeat refine kX_one rfl ?_
          refine kX_if (fun q4 => ?_) (fun q4 => ?_)
          · have q4 := qle q4 (j % 10) 5
            refine kX_lv [(4, .int (nI (j % 10))), (3, .ref (23 + 35 * r)), (0, .ref 0), (1, .int (nI r)), (2, .int (nI j))] rfl rfl (by rw [← hk2]; rfl) ?_
            iterate 2 (refine kX_one rfl ?_)
            repeat refine kX_one rfl ?_
            refine kX_if (fun q5 => ?_) (fun q5 => ?_)
            · have q5 := qlt q5 j 30
              rw [eA, orN_e j2.1 q5 q4]
              iterate 2 (refine kX_one rfl ?_)
              refine kX_getN rfl rfl (kT_ro hr4) rfl ?_
              refine kX_top (e2) ?_
              repeat refine kX_one rfl ?_
              refine kX_if (fun q6 => ?_) (fun q6 => ?_)
              · have q6 := qlt q6 (j % 10) ev
                obtain ⟨t1, t2, -⟩ := a5 (j % 10) (by omega)
                rw [if_neg (by omega)]
                iterate 2 (refine kX_one rfl ?_)
                repeat refine kX_one rfl ?_
                refine kX_if (fun q7 => ?_) (fun q7 => ?_)
                · have q7 := qge q7 j 20
                  rw [if_neg (by omega)]
                  iterate 1 (refine kX_one rfl ?_)
                  refine kX_getN rfl rfl (kT_ro hr4) rfl ?_
                  iterate 1 (refine kX_one rfl ?_)
                  refine kX_aaldN rfl (kT_re hr4) (by decide) (by decide) (by decide) (j % 10) (by first | rfl | decide) (by omega) (ev_at (by omega)) ?_
                  refine kX_getN rfl rfl (kT_ev hr4 (show j % 10 < 6 by omega)) rfl ?_
                  refine kX_cal (mc_asNumber L xs d σ _) rfl (Or.inr rfl) rfl rfl rfl (fun r1 σ1 q1 => ?_)
                  obtain ⟨rfl, rfl⟩ := q1
                  refine kX_ret (i := .ireturn) (len := 1) rfl (Or.inr rfl) rfl (⟨rV (by rw [propext t2]), rfl⟩)
                · have q7 := qgeF q7 j 20
                  rw [if_pos (by omega)]
                  iterate 1 (refine kX_one rfl ?_)
                  refine kX_getN rfl rfl (kT_ro hr4) rfl ?_
                  iterate 1 (refine kX_one rfl ?_)
                  refine kX_aaldN rfl (kT_re hr4) (by decide) (by decide) (by decide) (j % 10) (by first | rfl | decide) (by omega) (ev_at (by omega)) ?_
                  refine kX_getN rfl rfl (kT_ev hr4 (show j % 10 < 6 by omega)) rfl ?_
                  repeat refine kX_one rfl ?_
                  refine kX_ret (i := .ireturn) (len := 1) rfl (Or.inr rfl) rfl (⟨rV t1, rfl⟩)
              · have q6 := qltF q6 (j % 10) ev
                rw [if_pos (by omega)]
                repeat refine kX_one rfl ?_
                refine kX_ret (i := .ireturn) (len := 1) rfl (Or.inr rfl) rfl (⟨rfl, rfl⟩)
            · have q5 := qltF q5 j 30
              rw [eA, orN_3 q5 j2.2, ev']
              iterate 2 (refine kX_one rfl ?_)
              refine kX_getN rfl rfl (kT_ro hr4) rfl ?_
              refine kX_top (v2) ?_
              repeat refine kX_one rfl ?_
              refine kX_if (fun q6 => ?_) (fun q6 => ?_)
              · have q6 := qge q6 (j % 10) v
                rw [if_neg (by omega)]
                repeat refine kX_one rfl ?_
                refine kX_ret (i := .ireturn) (len := 1) rfl (Or.inr rfl) rfl (⟨rfl, rfl⟩)
              · have q6 := qgeF q6 (j % 10) v
                rw [if_pos q6]
                iterate 1 (refine kX_one rfl ?_)
                refine kX_getN rfl rfl (kT_ro hr4) rfl ?_
                iterate 1 (refine kX_one rfl ?_)
                refine kX_ialdN rfl (kT_ra hr4) (by decide) (j % 10) (by first | rfl | decide) (by omega) ?_
                repeat refine kX_one rfl ?_
                refine kX_ret (i := .ireturn) (len := 1) rfl (Or.inr rfl) rfl (⟨rV (a4 (j % 10) (by omega)).1, rfl⟩)
          · have q4 := qleF q4 (j % 10) 5
            refine kX_lv _ rfl rfl rfl (k89 _ (orA_2 hr hR4 (fun j' j1' hj => ?_)))
            obtain rfl : j = j' := nI_inj hj
            omega
    iterate 4 (refine kX_one rfl ?_)
    refine kX_aaldN rfl (rfl) (by decide) (by decide) (by decide) (r) (by first | rfl | decide) (hr4) (ro_at hr4) ?_
    iterate 1 (refine kX_one rfl ?_)
    repeat refine kX_one rfl ?_
    refine kX_if (fun q2 => ?_) (fun q2 => ?_)
    · have q2 : w < 0 := of_decide_eq_true q2
      refine kX_lv _ rfl rfl rfl (k63 (fun j hj e => ?_))
      rw [e] at q2
      exact nI_pos (by omega) q2
    · have q2 : ¬ w < 0 := of_decide_eq_false q2
      obtain ⟨j, j1, rfl⟩ := nI_of q2
      repeat refine kX_one rfl ?_
      refine kX_if (fun q3 => ?_) (fun q3 => ?_)
      · have q3 := qgt q3 j 2
        refine kX_lv _ rfl rfl rfl (k63 (fun j' hj e => ?_))
        have := nI_inj e
        omega
      · have q3 := qgtF q3 j 2
        have eA := orA_j (σ := σ) hr hR4 (show j < 36 by omega)
        rw [eA]
        repeat refine kX_one rfl ?_
        refine kX_if (fun q4 => ?_) (fun q4 => ?_)
        · have q4 : j ≠ 0 := fun e => qne q4 (by rw [e]; rfl)
          repeat refine kX_one rfl ?_
          refine kX_if (fun q5 => ?_) (fun q5 => ?_)
          · have q5 : j ≠ 1 := fun e => qne q5 (by rw [e]; rfl)
            obtain rfl : j = 2 := by omega
            iterate 1 (refine kX_one rfl ?_)
            refine kX_getN rfl rfl (kT_ro hr4) rfl ?_
            refine kX_cal (mc_asNumber L xs d σ _) rfl (Or.inr rfl) rfl rfl rfl (fun r1 σ1 q1 => ?_)
            obtain ⟨rfl, rfl⟩ := q1
            refine kX_ret (i := .ireturn) (len := 1) rfl (Or.inr rfl) rfl (⟨rV (show _ = isB (σ 250 r ≠ 0) by rw [propext a3]), rfl⟩)
          · obtain rfl : j = 1 := nI_inj (qneF q5)
            iterate 1 (refine kX_one rfl ?_)
            refine kX_getN rfl rfl (kT_ro hr4) rfl ?_
            repeat refine kX_one rfl ?_
            refine kX_ret (i := .ireturn) (len := 1) rfl (Or.inr rfl) rfl (⟨rV a2, rfl⟩)
        · obtain rfl : j = 0 := nI_inj (qneF q4)
          iterate 1 (refine kX_one rfl ?_)
          refine kX_getN rfl rfl (kT_ro hr4) rfl ?_
          repeat refine kX_one rfl ?_
          refine kX_ret (i := .ireturn) (len := 1) rfl (Or.inr rfl) rfl (⟨rV a1, rfl⟩)
  · have q : ¬ isN x R := fun z => isB_ne.mpr z (qneF q)
    repeat refine kX_one rfl ?_
    refine kX_ret (i := .ireturn) (len := 1) rfl (Or.inr rfl) rfl (⟨rV (show _ = orA σ R x w by unfold orA; rw [cit_F q]; rfl), rfl⟩)
set_option maxRecDepth 100000 in
set_option maxHeartbeats 4000000 in
theorem mt_ofRole98 (L : Nat) (xs : Nat → Int32) (d : Nat) (σ : kS) (r m a v ev : Nat) (y : Int32) (hr : r < 4) (hm : m < 6) (hv6 : v ≤ 6) (he6 : ev ≤ 6) (ha : a < 10) (hv : σ 244 r = nI v) (hev : σ 247 r = nI ev) (Q : Option Value → kS → Prop) (hQ : Q (some (.int (if a = 3 then (if m < v then σ 246 (6 * r + m) else -6) else if ev ≤ m then -6 else if a = 1 then σ 248 (6 * r + m) else isB (σ 249 (6 * r + m) ≠ 0)))) σ) : kX kT L xs (d + 1) 225 98 [(4, .int (nI m)), (3, .int (nI a)), (0, .ref 232), (1, .int (nI r)), (2, .int y)] [] σ Q := by
  iterate 5 (refine kX_one rfl ?_)
  refine kX_top (ix6 r m) ?_
  iterate 1 (refine kX_one rfl ?_)
  repeat refine kX_one rfl ?_
  refine kX_if (fun q => ?_) (fun q => ?_)
  · have q : a ≠ 3 := fun e => qne q (by rw [e]; rfl)
    rw [if_neg q] at hQ
    repeat refine kX_one rfl ?_
    refine kX_ialdV rfl rfl (by decide) (r) (by first | rfl | decide) (by omega) (hev) ?_
    repeat refine kX_one rfl ?_
    refine kX_if (fun q => ?_) (fun q => ?_)
    · have q := qlt q m ev
      rw [if_neg (by omega)] at hQ
      repeat refine kX_one rfl ?_
      refine kX_if (fun q => ?_) (fun q => ?_)
      · have q : a ≠ 1 := fun e => qne q (by rw [e]; rfl)
        rw [if_neg q] at hQ
        repeat refine kX_one rfl ?_
        refine kX_baldN rfl rfl (by decide) (6 * r + m) (by first | rfl | decide) (by omega) ?_
        repeat refine kX_one rfl ?_
        refine kX_if (fun q => ?_) (fun q => ?_)
        · rw [isB_F (fun z => z (qeq q))] at hQ
          repeat refine kX_one rfl ?_
          refine kX_ret (i := .ireturn) (len := 1) rfl (Or.inr rfl) rfl (hQ)
        · rw [isB_T (qeqF q)] at hQ
          repeat refine kX_one rfl ?_
          refine kX_ret (i := .ireturn) (len := 1) rfl (Or.inr rfl) rfl (hQ)
      · have q : a = 1 := nI_inj (qneF q)
        rw [if_pos q] at hQ
        repeat refine kX_one rfl ?_
        refine kX_ialdN rfl rfl (by decide) (6 * r + m) (by first | rfl | decide) (by omega) ?_
        repeat refine kX_one rfl ?_
        refine kX_ret (i := .ireturn) (len := 1) rfl (Or.inr rfl) rfl (hQ)
    · have q := qltF q m ev
      rw [if_pos q] at hQ
      repeat refine kX_one rfl ?_
      refine kX_ret (i := .ireturn) (len := 1) rfl (Or.inr rfl) rfl (hQ)
  · have q : a = 3 := nI_inj (qneF q)
    rw [if_pos q] at hQ
    repeat refine kX_one rfl ?_
    refine kX_ialdV rfl rfl (by decide) (r) (by first | rfl | decide) (by omega) (hv) ?_
    repeat refine kX_one rfl ?_
    refine kX_if (fun q => ?_) (fun q => ?_)
    · have q := qge q m v
      rw [if_neg (by omega)] at hQ
      repeat refine kX_one rfl ?_
      refine kX_ret (i := .ireturn) (len := 1) rfl (Or.inr rfl) rfl (hQ)
    · have q := qgeF q m v
      rw [if_pos q] at hQ
      repeat refine kX_one rfl ?_
      refine kX_ialdN rfl rfl (by decide) (6 * r + m) (by first | rfl | decide) (by omega) ?_
      repeat refine kX_one rfl ?_
      refine kX_ret (i := .ireturn) (len := 1) rfl (Or.inr rfl) rfl (hQ)
set_option maxRecDepth 100000 in
set_option maxHeartbeats 4000000 in
theorem mt_ofRole (L : Nat) (xs : Nat → Int32) (d : Nat) (σ : kS) (n b R S C : Nat) (kl : List Nat) (x y : Int32) (h : mI σ n b R S C kl) : kXM kT L xs (d + 2) 225 [.ref 232, .int x, .int y] σ (fun r σ' => r = some (.int (orA σ R x y)) ∧ σ = σ') := by
  have h2 := h.2.1
  have hR4 := h2.1
  unfold kXM
  repeat refine kX_one rfl ?_
  refine kX_cal (mr_isRole L xs d σ R x h2.2.1 (by omega)) rfl (Or.inr rfl) rfl rfl rfl (fun r1 σ1 q1 => ?_)
  obtain ⟨rfl, rfl⟩ := q1
  repeat refine kX_one rfl ?_
  refine kX_if (fun q => ?_) (fun q => ?_)
  · obtain ⟨r, hr, rfl⟩ := isB_ne.mp (qne q)
    obtain ⟨⟨v, hv6, hv⟩, ev, he6, hev⟩ := h2.2.2.1 r hr
    have ev' : fN (σ 244 r) = v := by rw [hv, fN_nI (by omega)]
    have ee' : fN (σ 247 r) = ev := by rw [hev, fN_nI (by omega)]
    repeat refine kX_one rfl ?_
    refine kX_cal (mr_in L xs (d + 1) σ _ _ _) rfl (Or.inr rfl) rfl rfl rfl (fun r1 σ1 q1 => ?_)
    obtain ⟨rfl, rfl⟩ := q1
    rw [isB_dec]
    repeat refine kX_one rfl ?_
    refine kX_if (fun q => ?_) (fun q => ?_)
    · have hn3 : ∀ j, j < 3 → y ≠ nI j := fun j hj e => by
        refine isB_ne.mpr ?_ (qeq q)
        subst e
        have : j = 0 ∨ j = 1 ∨ j = 2 := by omega
        rcases this with rfl | rfl | rfl <;> decide
      repeat refine kX_one rfl ?_
      refine kX_cal (mr_in L xs (d + 1) σ _ _ _) rfl (Or.inr rfl) rfl rfl rfl (fun r1 σ1 q1 => ?_)
      obtain ⟨rfl, rfl⟩ := q1
      rw [isB_dec]
      repeat refine kX_one rfl ?_
      refine kX_if (fun q => ?_) (fun q => ?_)
      · have q := qeq q
        have hq : orA σ R (nI r) y = -2 := orA_2 hr hR4 (fun j j1 hj => by
          have h3 : ¬ j < 3 := fun z => hn3 j z hj
          by_cases h10 : j < 10
          · exact ⟨by omega, Or.inl h10⟩
          · exfalso
            refine isB_ne.mpr ?_ q
            subst hj
            show ¬ (nI j).toInt64 < (nI 10).toInt64 ∧ ¬ (nI 35).toInt64 < (nI j).toInt64
            rw [i64_lt, i64_lt, Int32.lt_iff_toInt_lt, Int32.lt_iff_toInt_lt, nI_toInt (by omega), nI_toInt (by omega), nI_toInt (by omega)]
            omega)
        repeat refine kX_one rfl ?_
        refine kX_ret (i := .ireturn) (len := 1) rfl (Or.inr rfl) rfl (⟨rV hq.symm, rfl⟩)
      · obtain ⟨k, k1, k2, rfl⟩ := in_R (lo := 10) (hi := 35) (by omega) (by omega) (isB_ne.mp (qeqF q)).1 (isB_ne.mp (qeqF q)).2
        rw [dv10 k (by omega), rm10 k (by omega), orA_j hr hR4 (by omega)]
        repeat refine kX_one rfl ?_
        refine kX_if (fun q => ?_) (fun q => ?_)
        · have q := qle q (k % 10) 5
          refine kX_lv _ rfl rfl rfl (mt_ofRole98 L xs (d + 1) σ r (k % 10) (k / 10) v ev (nI k) (by omega) (by omega) hv6 he6 (by omega) hv hev _ ⟨rV ?_, rfl⟩)
          unfold orN
          rw [if_neg (show ¬ k = 0 by omega), if_neg (show ¬ k = 1 by omega), if_neg (show ¬ k = 2 by omega), if_neg (show ¬ (k < 10 ∨ 5 < k % 10) by omega), ev', ee']
        · have q := qleF q (k % 10) 5
          have hq : orN σ r k = -2 := by
            unfold orN
            rw [if_neg (by omega), if_neg (by omega), if_neg (by omega), if_pos (by omega)]
          repeat refine kX_one rfl ?_
          refine kX_ret (i := .ireturn) (len := 1) rfl (Or.inr rfl) rfl (⟨rV hq.symm, rfl⟩)
    · obtain ⟨k, k1, k2, rfl⟩ := in_R (lo := 0) (hi := 2) (by omega) (by omega) (isB_ne.mp (qeqF q)).1 (isB_ne.mp (qeqF q)).2
      rw [orA_j hr hR4 (by omega)]
      repeat refine kX_one rfl ?_
      refine kX_if (fun q => ?_) (fun q => ?_)
      · have q0 : k ≠ 0 := fun e => qne q (by rw [e]; rfl)
        repeat refine kX_one rfl ?_
        refine kX_if (fun q => ?_) (fun q => ?_)
        · have q1 : k ≠ 1 := fun e => qne q (by rw [e]; rfl)
          obtain rfl : k = 2 := by omega
          repeat refine kX_one rfl ?_
          refine kX_baldN rfl rfl (by decide) (r) (by first | rfl | decide) (by omega) ?_
          repeat refine kX_one rfl ?_
          refine kX_if (fun q => ?_) (fun q => ?_)
          · repeat refine kX_one rfl ?_
            refine kX_ret (i := .ireturn) (len := 1) rfl (Or.inr rfl) rfl (⟨rF (fun z => z (qeq q)), rfl⟩)
          · repeat refine kX_one rfl ?_
            refine kX_ret (i := .ireturn) (len := 1) rfl (Or.inr rfl) rfl (⟨rT (qeqF q), rfl⟩)
        · obtain rfl : k = 1 := nI_inj (qneF q)
          repeat refine kX_one rfl ?_
          refine kX_ialdN rfl rfl (by decide) (r) (by first | rfl | decide) (by omega) ?_
          repeat refine kX_one rfl ?_
          refine kX_ret (i := .ireturn) (len := 1) rfl (Or.inr rfl) rfl (⟨rfl, rfl⟩)
      · obtain rfl : k = 0 := nI_inj (qneF q)
        repeat refine kX_one rfl ?_
        refine kX_ialdN rfl rfl (by decide) (r) (by first | rfl | decide) (by omega) ?_
        repeat refine kX_one rfl ?_
        refine kX_ret (i := .ireturn) (len := 1) rfl (Or.inr rfl) rfl (⟨rfl, rfl⟩)
  · have q : ¬ isN x R := fun z => isB_ne.mpr z (qneF q)
    repeat refine kX_one rfl ?_
    refine kX_ret (i := .ireturn) (len := 1) rfl (Or.inr rfl) rfl (⟨rV (show _ = orA σ R x y by unfold orA; rw [cit_F q]; rfl), rfl⟩)
theorem bo_ofRole (L : Nat) (xs : Nat → Int32) (d d' m : Nat) (σ : kS) (x w : Int32) (h : bJ m σ) : kXM kT L xs (d + 2) 137 [.ref 0, .int x, .int w] σ (fun r τ => ∃ z, r = some (.int z) ∧ kXM kT L xs (d' + 2) 225 [.ref 232, .int x, .int w] τ (fun r' ω => r' = some (.int z) ∧ bJ m ω)) := by
  have hb := h
  obtain ⟨n, b, R, S, C, kl, h⟩ := h
  exact bo_same hb (kt_ofRole L xs d σ n R S C x w h.2.1 h.2.2.2.1) (mt_ofRole L xs d' σ n b R S C kl x w h.1)
