/-! the class: ofRole, countOf -/
theorem fm_ok : ∀ j : Fin 36, 10 ≤ j.1 → ∃ k : Fin 10, jmmv 2 (nI j.1) (Int8.ofInt 10).toInt32 = nI k.1 := by decide +kernel
set_option maxRecDepth 100000 in
set_option maxHeartbeats 4000000 in
theorem mk_ofRole (L : Nat) (xs : Nat → Int32) (d : Nat) (σ : kS) (n R S C : Nat) (x w : Int32) (h : cJ σ n R S C) : kXM kT L xs (d + 2) 137 [.ref 0, .int x, .int w] σ (fun r σ' => (∃ x, r = some (.int x)) ∧ cAfter σ σ' R) := by
  have hR := h.2.1
  have hR4 := hR.1
  unfold kXM
  iterate 3 (refine kX_one rfl ?_)
  refine kX_cal (mc_hasRole L xs d σ R x hR4 hR.2.1) rfl (Or.inr rfl) rfl rfl rfl (fun r1 σ1 q1 => ?_)
  obtain ⟨rfl, rfl⟩ := q1
  repeat refine kX_one rfl ?_
  refine kX_if (fun q => ?_) (fun q => ?_)
  · obtain ⟨r, hr, rfl⟩ := isB_ne.mp (qne q)
    have hr4 : r < 4 := by omega
    obtain ⟨v, ev, v1, e1, v2, e2, so1, ev1⟩ := hR.2.2 r hr
    have k89 : ∀ y : Int32, kX kT L xs (d + 2) 137 89 [(4, .int y), (3, .ref (23 + 35 * r)), (0, .ref 0), (1, .int (nI r)), (2, .int w)] [] σ (fun r σ' => (∃ x, r = some (.int x)) ∧ cAfter σ σ' R) := by
      intro y
      repeat refine kX_one rfl ?_
      refine kX_ret (i := .ireturn) (len := 1) rfl (Or.inr rfl) rfl (⟨⟨_, rfl⟩, cAfter_same h⟩)
    have k63 : kX kT L xs (d + 2) 137 63 [(3, .ref (23 + 35 * r)), (0, .ref 0), (1, .int (nI r)), (2, .int w)] [] σ (fun r σ' => (∃ x, r = some (.int x)) ∧ cAfter σ σ' R) := by
      iterate 6 (refine kX_one rfl ?_)
      repeat refine kX_one rfl ?_
      refine kX_if (fun q2 => ?_) (fun q2 => ?_)
      · exact kX_lv _ rfl rfl rfl (k89 _)
      · have q2 : ¬ w < 10 := of_decide_eq_false q2
        iterate 2 (refine kX_one rfl ?_)
        repeat refine kX_one rfl ?_
        refine kX_if (fun q3 => ?_) (fun q3 => ?_)
        · exact kX_lv _ rfl rfl rfl (k89 _)
        · have q3 : ¬ 35 < w := of_decide_eq_false q3
          obtain ⟨j, j1, rfl⟩ := nI_of (x := w) (fun z => q2 (by
            rw [Int32.lt_iff_toInt_lt] at z ⊢
            have e1 : (0 : Int32).toInt = 0 := rfl
            have e2 : (10 : Int32).toInt = 10 := rfl
            omega))
          have j2 : 10 ≤ j ∧ j ≤ 35 := by
            rw [Int32.lt_iff_toInt_lt, nI_toInt j1] at q2 q3
            have e1 : (35 : Int32).toInt = 35 := rfl
            have e2 : (10 : Int32).toInt = 10 := rfl
            omega
          obtain ⟨⟨k, hk⟩, hk2⟩ := fm_ok ⟨j, by omega⟩ j2.1
          simp only at hk2
          iterate 1 (refine kX_one rfl ?_)
          refine kX_top (hk2) ?_
          iterate 1 (refine kX_one rfl ?_)
          repeat refine kX_one rfl ?_
          refine kX_if (fun q4 => ?_) (fun q4 => ?_)
          · have q4 := qle q4 k 5
            refine kX_lv [(4, .int (nI k)), (3, .ref (23 + 35 * r)), (0, .ref 0), (1, .int (nI r)), (2, .int (nI j))] rfl rfl (by rw [← hk2]; rfl) ?_
            iterate 2 (refine kX_one rfl ?_)
            repeat refine kX_one rfl ?_
            refine kX_if (fun q5 => ?_) (fun q5 => ?_)
            · iterate 2 (refine kX_one rfl ?_)
              refine kX_getN rfl rfl (kT_ro hr4) rfl ?_
              refine kX_top (e2) ?_
              repeat refine kX_one rfl ?_
              refine kX_if (fun q6 => ?_) (fun q6 => ?_)
              · have q6 := qlt q6 k ev
                iterate 2 (refine kX_one rfl ?_)
                repeat refine kX_one rfl ?_
                refine kX_if (fun q7 => ?_) (fun q7 => ?_)
                · iterate 1 (refine kX_one rfl ?_)
                  refine kX_getN rfl rfl (kT_ro hr4) rfl ?_
                  iterate 1 (refine kX_one rfl ?_)
                  refine kX_aaldN rfl (kT_re hr4) (by decide) (by decide) (by decide) (k) (by first | rfl | decide) (by omega) (ev_at (by omega)) ?_
                  refine kX_getN rfl rfl (kT_ev hr4 (show k < 6 by omega)) rfl ?_
                  refine kX_cal (mc_asNumber L xs d σ _) rfl (Or.inr rfl) rfl rfl rfl (fun r1 σ1 q1 => ?_)
                  obtain ⟨rfl, rfl⟩ := q1
                  refine kX_ret (i := .ireturn) (len := 1) rfl (Or.inr rfl) rfl (⟨⟨_, rfl⟩, cAfter_same h⟩)
                · iterate 1 (refine kX_one rfl ?_)
                  refine kX_getN rfl rfl (kT_ro hr4) rfl ?_
                  iterate 1 (refine kX_one rfl ?_)
                  refine kX_aaldN rfl (kT_re hr4) (by decide) (by decide) (by decide) (k) (by first | rfl | decide) (by omega) (ev_at (by omega)) ?_
                  refine kX_getN rfl rfl (kT_ev hr4 (show k < 6 by omega)) rfl ?_
                  repeat refine kX_one rfl ?_
                  refine kX_ret (i := .ireturn) (len := 1) rfl (Or.inr rfl) rfl (⟨⟨_, rfl⟩, cAfter_same h⟩)
              · repeat refine kX_one rfl ?_
                refine kX_ret (i := .ireturn) (len := 1) rfl (Or.inr rfl) rfl (⟨⟨_, rfl⟩, cAfter_same h⟩)
            · iterate 2 (refine kX_one rfl ?_)
              refine kX_getN rfl rfl (kT_ro hr4) rfl ?_
              refine kX_top (v2) ?_
              repeat refine kX_one rfl ?_
              refine kX_if (fun q6 => ?_) (fun q6 => ?_)
              · repeat refine kX_one rfl ?_
                refine kX_ret (i := .ireturn) (len := 1) rfl (Or.inr rfl) rfl (⟨⟨_, rfl⟩, cAfter_same h⟩)
              · have q6 := qgeF q6 k v
                iterate 1 (refine kX_one rfl ?_)
                refine kX_getN rfl rfl (kT_ro hr4) rfl ?_
                iterate 1 (refine kX_one rfl ?_)
                refine kX_ialdN rfl (kT_ra hr4) (by decide) (k) (by first | rfl | decide) (by omega) ?_
                repeat refine kX_one rfl ?_
                refine kX_ret (i := .ireturn) (len := 1) rfl (Or.inr rfl) rfl (⟨⟨_, rfl⟩, cAfter_same h⟩)
          · exact kX_lv _ rfl rfl rfl (k89 _)
    iterate 4 (refine kX_one rfl ?_)
    refine kX_aaldN rfl (rfl) (by decide) (by decide) (by decide) (r) (by first | rfl | decide) (hr4) (ro_at hr4) ?_
    iterate 1 (refine kX_one rfl ?_)
    repeat refine kX_one rfl ?_
    refine kX_if (fun q2 => ?_) (fun q2 => ?_)
    · exact kX_lv _ rfl rfl rfl k63
    · repeat refine kX_one rfl ?_
      refine kX_if (fun q3 => ?_) (fun q3 => ?_)
      · exact kX_lv _ rfl rfl rfl k63
      · repeat refine kX_one rfl ?_
        refine kX_if (fun q4 => ?_) (fun q4 => ?_)
        · repeat refine kX_one rfl ?_
          refine kX_if (fun q5 => ?_) (fun q5 => ?_)
          · iterate 1 (refine kX_one rfl ?_)
            refine kX_getN rfl rfl (kT_ro hr4) rfl ?_
            refine kX_cal (mc_asNumber L xs d σ _) rfl (Or.inr rfl) rfl rfl rfl (fun r1 σ1 q1 => ?_)
            obtain ⟨rfl, rfl⟩ := q1
            refine kX_ret (i := .ireturn) (len := 1) rfl (Or.inr rfl) rfl (⟨⟨_, rfl⟩, cAfter_same h⟩)
          · iterate 1 (refine kX_one rfl ?_)
            refine kX_getN rfl rfl (kT_ro hr4) rfl ?_
            repeat refine kX_one rfl ?_
            refine kX_ret (i := .ireturn) (len := 1) rfl (Or.inr rfl) rfl (⟨⟨_, rfl⟩, cAfter_same h⟩)
        · iterate 1 (refine kX_one rfl ?_)
          refine kX_getN rfl rfl (kT_ro hr4) rfl ?_
          repeat refine kX_one rfl ?_
          refine kX_ret (i := .ireturn) (len := 1) rfl (Or.inr rfl) rfl (⟨⟨_, rfl⟩, cAfter_same h⟩)
  · repeat refine kX_one rfl ?_
    refine kX_ret (i := .ireturn) (len := 1) rfl (Or.inr rfl) rfl (⟨⟨_, rfl⟩, cAfter_same h⟩)
set_option maxRecDepth 100000 in
set_option maxHeartbeats 4000000 in
theorem mc_countOf (L : Nat) (xs : Nat → Int32) (d : Nat) (σ : kS) (r v : Nat) (x : Int32) (hr : r < 4) (hv : v ≤ 6) (h : σ (23 + 35 * r) 3 = nI v) : kXM kT L xs (d + 1) 64 [.ref (23 + 35 * r), .int x] σ (fun q σ' => q = some (.int (nI (cnt (fun k => σ (24 + 35 * r) k = x) v))) ∧ σ = σ') := by
  unfold kXM
  have loop : ∀ k : Nat, k ≤ v → kX kT L xs (d + 1) 64 4 [(3, .int (nI k)), (2, .int (nI (cnt (fun k => σ (24 + 35 * r) k = x) k))), (0, .ref (23 + 35 * r)), (1, .int x)] [] σ (fun q σ' => q = some (.int (nI (cnt (fun k => σ (24 + 35 * r) k = x) v))) ∧ σ = σ') := by
    refine kX_while (fun k : Nat => [(3, .int (nI k)), (2, .int (nI (cnt (fun k => σ (24 + 35 * r) k = x) k))), (0, .ref (23 + 35 * r)), (1, .int x)]) (fun _ => σ) (fun k => k ≤ v) (fun k => v - k) ?_
    intro k hk ih
    iterate 2 (refine kX_one rfl ?_)
    refine kX_getN rfl rfl (kT_ro hr) rfl ?_
    refine kX_top (h) ?_
    repeat refine kX_one rfl ?_
    refine kX_if (fun q => ?_) (fun q => ?_)
    · have q := qge q k v
      obtain rfl : k = v := by omega
      repeat refine kX_one rfl ?_
      refine kX_ret (i := .ireturn) (len := 1) rfl (Or.inr rfl) rfl (⟨rfl, rfl⟩)
    · have q := qgeF q k v
      have k25 : ∀ m, cnt (fun k => σ (24 + 35 * r) k = x) (k + 1) = m → kX kT L xs (d + 1) 64 25 [(3, .int (nI k)), (2, .int (nI m)), (0, .ref (23 + 35 * r)), (1, .int x)] [] σ (fun q σ' => q = some (.int (nI (cnt (fun k => σ (24 + 35 * r) k = x) v))) ∧ σ = σ') := by
        intro m hm
        subst hm
        iterate 2 (refine kX_one rfl ?_)
        have := ih (k + 1) q (by omega)
        rw [← nI_1] at this
        exact kX_lv _ rfl rfl rfl this
      iterate 1 (refine kX_one rfl ?_)
      refine kX_getN rfl rfl (kT_ro hr) rfl ?_
      iterate 1 (refine kX_one rfl ?_)
      refine kX_ialdN rfl (kT_ra hr) (by decide) (k) (by first | rfl | decide) (by omega) ?_
      iterate 1 (refine kX_one rfl ?_)
      repeat refine kX_one rfl ?_
      refine kX_if (fun q2 => ?_) (fun q2 => ?_)
      · have q2 : ¬ σ (24 + 35 * r) k = x := qne q2
        exact k25 _ (by rw [cnt, if_neg q2]; rfl)
      · have q2 : σ (24 + 35 * r) k = x := qneF q2
        iterate 1 (refine kX_one rfl ?_)
        have := k25 (cnt (fun k => σ (24 + 35 * r) k = x) k + 1) (by rw [cnt, if_pos q2])
        rw [← nI_1] at this
        exact kX_lv _ rfl rfl rfl this
  iterate 4 (refine kX_one rfl ?_)
  exact kX_lv _ rfl rfl rfl (loop 0 (Nat.zero_le _))
