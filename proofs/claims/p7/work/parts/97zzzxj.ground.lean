/-! alike: groundOf -/
set_option maxRecDepth 100000 in
set_option maxHeartbeats 4000000 in
theorem mf_groundOf (L : Nat) (xs : Nat → Int32) (K st n A M vals m : Nat) (l : rwT) (W : Nat → Jvm.Term) (g0 : Nat → Int32) (hA : kT[A]? = some (.inl (0, M, .inl g0))) (hM : M ≤ 100000) (hA2 : (A < K ∨ K + 9 ≤ A) ∧ 13 ≤ A) (hvl : vals + 6 ≤ M) : ∀ (f d dd u : Nat) (σ : kS) (t : Nat), dd + f = 49 → kDp σ t + dd ≤ 48 → iE σ K st n u m l → cCn σ n → gR σ n → t < n → kSt σ n A vals W t → u + kSz σ t ≤ 577 → kXM kT L xs (d + f + 4) 50 [.ref K, .int (nI t), .ref A, .int (nI vals), .int (nI dd)] σ (gP σ K st n u m l W t) := by
  intro f
  induction f with
  | zero =>
    intro d dd u σ t hdd hdp h hC hG ht hs hsz
    omega
  | succ f ih =>
    intro d dd u σ t hdd hdp h hC hG ht hs hsz
    have hB := iE_nB h
    have hn := h.2.1
    have hb := isK_b hB.1
    have hV := iE_V h
    have htV : kV n st u t := Or.inl ht
    have hps := kSz_pos h htV
    unfold kXM
    iterate 1 (refine kX_one rfl ?_)
    refine kX_getN rfl rfl (kT_kn hB.1) rfl ?_
    iterate 1 (refine kX_one rfl ?_)
    refine kX_cal (mc_has L xs (d + f + 3) σ n (nI t) hn h.2.2.1) rfl (Or.inr rfl) rfl rfl rfl (fun r1 σ1 q1 => ?_)
    obtain ⟨rfl, rfl⟩ := q1
    repeat refine kX_one rfl ?_
    refine kX_ifF (decide_eq_false (isB_ne.mpr ⟨t, ht, rfl⟩)) ?_
    iterate 2 (refine kX_one rfl ?_)
    repeat refine kX_one rfl ?_
    refine kX_if (fun q2 => ?_) (fun q2 => ?_)
    · iterate 1 (refine kX_one rfl ?_)
      refine kX_getN rfl rfl (kT_kn hB.1) rfl ?_
      iterate 2 (refine kX_one rfl ?_)
      refine kX_baldV rfl rfl (by decide) (t) (by first | rfl | decide) (by omega) (hG t ht) ?_
      repeat refine kX_one rfl ?_
      refine kX_if (fun q3 => ?_) (fun q3 => ?_)
      · have q3 : ¬ kGd σ t := fun z => isB_ne.mpr z (qeq q3)
        iterate 1 (refine kX_one rfl ?_)
        refine kX_getN rfl rfl (kT_kn hB.1) rfl ?_
        iterate 2 (refine kX_one rfl ?_)
        rcases (hV t htV).2 with ⟨k, h3, hk, -, -⟩ | ⟨k, x, y, h3, hk, hx, hy, h4, h5, h6, h7⟩ | ⟨k, x, h3, hk, hx, hy, h4, h6⟩
        · obtain rfl : k = 3 := Classical.byContradiction fun z => q3 (by unfold kGd; rw [tgd_0 hk h3]; exact decide_eq_true z)
          have hvt : t ∈ kVs σ t := by
            unfold kVs tvs
            rw [tA_0 hk h3, if_pos hk]
            exact List.mem_singleton.mpr rfl
          obtain ⟨p, z, z1, z2, z3, z4, z5, z6, z7⟩ := hs t hvt
          refine kX_ialdV rfl rfl (by decide) (t) (by first | rfl | decide) (by omega) (hk) ?_
          iterate 2 (refine kX_one rfl ?_)
          iterate 3 (refine kX_one rfl ?_)
          refine kX_getN rfl rfl (kT_kn hB.1) rfl ?_
          iterate 2 (refine kX_one rfl ?_)
          refine kX_ialdV rfl rfl (by decide) (t) (by first | rfl | decide) (by omega) (z3) ?_
          iterate 1 (refine kX_one rfl ?_)
          refine kX_ialdV rfl hA hM (vals + p) (nI_add vals p) (by omega) z4 ?_
          refine kX_ret (i := .ireturn) (len := 1) rfl (Or.inr rfl) rfl ⟨u, z, rfl, Or.inl z2, z5, ?_, ?_, fun ha => ?_, h, hC, iX_refl σ K st n u, by omega⟩
          · rw [z6]
            unfold tW
            rw [tA_0 hk h3, if_pos hk]
          · have := h.2.2.2.2.2.2.2.2.1 z z2
            omega
          · refine ⟨z2, Or.inl (z7 ?_)⟩
            rcases ha.2 with e | e
            · exact absurd (nI_inj (hk.symm.trans e)) (by decide)
            · exact e.2
        · have hk3 : σ 2 t ≠ nI 3 := by rw [hk]; exact nI_ne (by omega)
          have hx1 : x < n := by omega
          have hy1 : y < n := by omega
          have hvx : kVs σ t = kVs σ x ++ kVs σ y := tA_2 hV hk hx hy (by omega) (by omega) h4 h5 h6 h7
          have hdt : kDp σ t = 1 + max (kDp σ x) (kDp σ y) := tdp_2 hV hk hx hy (by omega) (by omega) h4 h5 h6 h7
          have hst : kSz σ t = 1 + kSz σ x + kSz σ y := by
            unfold kSz tsz
            rw [tA_2 hV hk hx hy (by omega) (by omega) h4 h5 h6 h7]
            rfl
          have htw : tW σ W t = vnd k (tW σ W x) (some (tW σ W y)) := tA_2 hV hk hx hy (by omega) (by omega) h4 h5 h6 h7
          have hD23 := h.2.2.2.2.2.2.2.2.1 t ht
          refine kX_ialdV rfl rfl (by decide) (t) (by first | rfl | decide) (by omega) (hk) ?_
          iterate 1 (refine kX_one rfl ?_)
          repeat refine kX_one rfl ?_
          refine kX_ifT (decide_eq_true (show nI k ≠ nI 3 from nI_ne (by omega))) ?_
          iterate 2 (refine kX_one rfl ?_)
          refine kX_getN rfl rfl (kT_kn hB.1) rfl ?_
          iterate 2 (refine kX_one rfl ?_)
          refine kX_ialdV rfl rfl (by decide) (t) (by first | rfl | decide) (by omega) (hx) ?_
          iterate 5 (refine kX_one rfl ?_)
          have r1 := ih d (dd + 1) u σ x (by omega) (by omega) h hC hG hx1 (fun v hv => hs v (by rw [hvx]; exact List.mem_append_left _ hv)) (by omega)
          rw [← nI_1] at r1
          refine kX_cal (r1) rfl (Or.inr rfl) rfl (jcall_v rfl rfl rfl (kT_kn hB.1) rfl rfl) rfl (fun r1 σ1 q1 => ?_)
          obtain ⟨u1, g1, rfl, a2, a3, a4, a5, a6, a7, a8, a9, a10⟩ := q1
          have hE1 := iE_nB a7
          iterate 3 (refine kX_one rfl ?_)
          refine kX_getN rfl rfl (kT_kn hB.1) rfl ?_
          iterate 2 (refine kX_one rfl ?_)
          refine kX_ialdV rfl rfl (by decide) t (by rfl) (by omega) ((a9.2.2.1 t htV).2.2.trans hy) ?_
          iterate 5 (refine kX_one rfl ?_)
          have hsz1 := iX_kSz h a9 h7
          have hdp1 := iX_kDp h a9 h7
          have r2 := ih d (dd + 1) u1 σ1 y (by omega) (by omega) a7 a8 (iX_gR h a9 hG) hy1 (iX_kSt h a9 h7 hA2 (fun v hv => hs v (by rw [hvx]; exact List.mem_append_right _ hv))) (by omega)
          rw [← nI_1] at r2
          refine kX_cal (r2) rfl (Or.inr rfl) rfl (jcall_v rfl rfl rfl (kT_kn hB.1) rfl rfl) rfl (fun r1 σ2 q1 => ?_)
          obtain ⟨u2, g2, rfl, b2, b3, b4, b5, b6, b7, b8, b9, b10⟩ := q1
          rw [hdp1] at b5
          rw [hsz1] at b10
          have hX2 := iX_trans a9 b9
          have hg1 : kV n st u2 g1 := kV_up b9.1 a2
          have hkd : σ2 2 t = nI k := (hX2.2.2.1 t htV).1.trans hk
          iterate 3 (refine kX_one rfl ?_)
          refine kX_getN rfl rfl (kT_kn hB.1) rfl ?_
          iterate 2 (refine kX_one rfl ?_)
          refine kX_ialdV rfl rfl (by decide) (t) (by first | rfl | decide) (by omega) (hkd) ?_
          iterate 2 (refine kX_one rfl ?_)
          have hdg1 : kDp σ2 g1 = kDp σ1 g1 := iX_kDp a7 b9 a2
          have hw : nwP σ2 n st u2 k g1 g2 (nI g1) (nI g2) := by
            refine ⟨hg1, (iX_kGd a7 b9 a2).mpr a3, by omega, rfl, Or.inl ⟨?_, b2, b3, by omega, rfl⟩⟩
            rcases h3 with q | q | q
            · exact Or.inl q
            · exact Or.inr (Or.inl q)
            · exact Or.inr (Or.inr ⟨q.1, b6 ((iX_AG hB.1 a9).mpr q.2)⟩)
          refine kX_cal (mf_findOrPut L xs (d + f + 1) σ2 K st n u2 m k g1 g2 l (nI g1) (nI g2) b7 b8 (by omega) hw) rfl (Or.inr rfl) rfl (jcall_v rfl rfl rfl (kT_kn hB.1) rfl rfl) rfl (fun r1 σ3 q1 => ?_)
          obtain ⟨u3, g3, rfl, c2, c3, c4, c5, c6, c7⟩ := q1
          have hX3 := iX_trans hX2 c6
          have hg1l := iE_lt b7 hg1
          have hg2l := iE_lt b7 b2
          have hlt1 : g1 < g3 ∧ g2 < g3 ∧ kV n st u3 g1 ∧ kV n st u3 g2 := by
            rcases (iE_V c4 g3 c2).2 with ⟨k', y3, yk, yf, -⟩ | ⟨k', x', y', y3, yk, yx, yy, y4, y5, y6, y7⟩ | ⟨k', x', y3, yk, yx, yy, y4, y6⟩
            · exact absurd (c3.2.1.symm.trans yf) (nI_m1 (by omega))
            · have q6 := iE_lt c4 y6
              have q7 := iE_lt c4 y7
              obtain rfl : g1 = x' := nI_inj (c3.2.1.symm.trans yx)
              obtain rfl : g2 = y' := nI_inj (c3.2.2.symm.trans yy)
              exact ⟨y4, y5, y6, y7⟩
            · exact absurd (c3.2.2.symm.trans yy) (nI_m1 (by omega))
          have hV3 := iE_V c4
          have hf : gP σ K st n u m l W t (some (.int (nI g3))) σ3 := by
            refine ⟨u3, g3, rfl, c2, ?_, ?_, ?_, fun ha => ?_, c4, c5, hX3, by omega⟩
            · unfold kGd
              rw [tgd_2 hV3 c3.1 c3.2.1 c3.2.2 (by omega) (by omega) hlt1.1 hlt1.2.1 hlt1.2.2.1 hlt1.2.2.2, Bool.and_eq_true]
              exact ⟨(iX_kGd b7 c6 hg1).mpr ((iX_kGd a7 b9 a2).mpr a3), (iX_kGd b7 c6 b2).mpr b3⟩
            · rw [htw, ← a4, ← iX_tW h a9 h7, ← b4]
              have e : kTv σ3 g3 = _ := tvl_2 hV3 c3.1 c3.2.1 c3.2.2 (by omega) (by omega) hlt1.1 hlt1.2.1 hlt1.2.2.1 hlt1.2.2.2
              rw [e]
              have e1 : kTv σ3 g1 = kTv σ1 g1 := (iX_kTv b7 c6 hg1).trans (iX_kTv a7 b9 a2)
              have e2 : kTv σ3 g2 = kTv σ2 g2 := iX_kTv b7 c6 b2
              unfold kTv at e1 e2 ⊢
              rw [e1, e2]
            · have e : kDp σ3 g3 = 1 + max (kDp σ3 g1) (kDp σ3 g2) := tdp_2 hV3 c3.1 c3.2.1 c3.2.2 (by omega) (by omega) hlt1.1 hlt1.2.1 hlt1.2.2.1 hlt1.2.2.2
              have e1 := iX_kDp b7 c6 hg1
              have e2 := iX_kDp b7 c6 b2
              omega
            · rcases ha.2 with e | e
              · exact absurd (nI_inj (hk.symm.trans e)) (by omega)
              · exact absurd e.1 hk3
          refine kX_ret (i := .ireturn) (len := 1) rfl (Or.inr rfl) rfl (hf)
        · have hk3 : σ 2 t ≠ nI 3 := by rw [hk]; exact nI_ne (by omega)
          have hx1 : x < n := by omega
          have hvx : kVs σ t = kVs σ x ++ [] := tA_1 hV hk hx hy (by omega) (by omega) h4 h6
          have hdt : kDp σ t = 1 + max (kDp σ x) 0 := tdp_1 hV hk hx hy (by omega) (by omega) h4 h6
          have hst : kSz σ t = 1 + kSz σ x + 0 := by
            unfold kSz tsz
            rw [tA_1 hV hk hx hy (by omega) (by omega) h4 h6]
            rfl
          have htw : tW σ W t = vnd k (tW σ W x) none := tA_1 hV hk hx hy (by omega) (by omega) h4 h6
          have hD23 := h.2.2.2.2.2.2.2.2.1 t ht
          refine kX_ialdV rfl rfl (by decide) (t) (by first | rfl | decide) (by omega) (hk) ?_
          iterate 1 (refine kX_one rfl ?_)
          repeat refine kX_one rfl ?_
          refine kX_ifT (decide_eq_true (show nI k ≠ nI 3 from nI_ne (by omega))) ?_
          iterate 2 (refine kX_one rfl ?_)
          refine kX_getN rfl rfl (kT_kn hB.1) rfl ?_
          iterate 2 (refine kX_one rfl ?_)
          refine kX_ialdV rfl rfl (by decide) (t) (by first | rfl | decide) (by omega) (hx) ?_
          iterate 5 (refine kX_one rfl ?_)
          have r1 := ih d (dd + 1) u σ x (by omega) (by omega) h hC hG hx1 (fun v hv => hs v (by rw [hvx]; exact List.mem_append_left _ hv)) (by omega)
          rw [← nI_1] at r1
          refine kX_cal (r1) rfl (Or.inr rfl) rfl (jcall_v rfl rfl rfl (kT_kn hB.1) rfl rfl) rfl (fun r1 σ1 q1 => ?_)
          obtain ⟨u1, g1, rfl, a2, a3, a4, a5, a6, a7, a8, a9, a10⟩ := q1
          iterate 3 (refine kX_one rfl ?_)
          refine kX_getN rfl rfl (kT_kn hB.1) rfl ?_
          iterate 2 (refine kX_one rfl ?_)
          refine kX_ialdV rfl rfl (by decide) t (by rfl) (by omega) ((a9.2.2.1 t htV).2.2.trans hy) ?_
          iterate 5 (refine kX_one rfl ?_)
          have r2 : kXM kT L xs (d + f + 4) 50 [.ref K, .int (-1), .ref A, .int (nI vals), .int (nI dd + Int32.ofInt 1)] σ1 (fun r σ' => r = some (.int (-1)) ∧ σ1 = σ') := by
            unfold kXM
            iterate 1 (refine kX_one rfl ?_)
            refine kX_getN rfl rfl (kT_kn hB.1) rfl ?_
            iterate 1 (refine kX_one rfl ?_)
            refine kX_cal (mc_has L xs (d + f + 2) σ1 n (-1) hn a7.2.2.1) rfl (Or.inr rfl) rfl rfl rfl (fun r1 σ1 q1 => ?_)
            obtain ⟨rfl, rfl⟩ := q1
            repeat refine kX_one rfl ?_
            refine kX_ifT (decide_eq_true (isB_F (fun ⟨j, j1, j2⟩ => nI_m1 (by omega) j2.symm))) ?_
            repeat refine kX_one rfl ?_
            refine kX_ret (i := .ireturn) (len := 1) rfl (Or.inr rfl) rfl (⟨rfl, rfl⟩)
          refine kX_cal (r2) rfl (Or.inr rfl) rfl (jcall_v rfl rfl rfl (kT_kn hB.1) rfl rfl) rfl (fun r1 σ2 q1 => ?_)
          obtain ⟨rfl, rfl⟩ := q1
          have hkd : σ1 2 t = nI k := (a9.2.2.1 t htV).1.trans hk
          iterate 3 (refine kX_one rfl ?_)
          refine kX_getN rfl rfl (kT_kn hB.1) rfl ?_
          iterate 2 (refine kX_one rfl ?_)
          refine kX_ialdV rfl rfl (by decide) (t) (by first | rfl | decide) (by omega) (hkd) ?_
          iterate 2 (refine kX_one rfl ?_)
          have hw : nwP σ1 n st u1 k g1 0 (nI g1) (-1) := by
            refine ⟨a2, a3, by omega, rfl, Or.inr ⟨?_, rfl⟩⟩
            rcases h3 with q | q
            · exact Or.inl q
            · exact Or.inr ⟨q.1, a6 q.2⟩
          refine kX_cal (mf_findOrPut L xs (d + f + 1) σ1 K st n u1 m k g1 0 l (nI g1) (-1) a7 a8 (by omega) hw) rfl (Or.inr rfl) rfl (jcall_v rfl rfl rfl (kT_kn hB.1) rfl rfl) rfl (fun r1 σ3 q1 => ?_)
          obtain ⟨u3, g3, rfl, c2, c3, c4, c5, c6, c7⟩ := q1
          have hX3 := iX_trans a9 c6
          have hg1l := iE_lt a7 a2
          have hlt1 : g1 < g3 ∧ kV n st u3 g1 := by
            rcases (iE_V c4 g3 c2).2 with ⟨k', y3, yk, yf, -⟩ | ⟨k', x', y', y3, yk, yx, yy, y4, y5, y6, y7⟩ | ⟨k', x', y3, yk, yx, yy, y4, y6⟩
            · exact absurd (c3.2.1.symm.trans yf) (nI_m1 (by omega))
            · have q7 := iE_lt c4 y7
              exact absurd (yy.symm.trans c3.2.2) (nI_m1 (by omega))
            · have q6 := iE_lt c4 y6
              obtain rfl : g1 = x' := nI_inj (c3.2.1.symm.trans yx)
              exact ⟨y4, y6⟩
          have hV3 := iE_V c4
          have hf : gP σ K st n u m l W t (some (.int (nI g3))) σ3 := by
            refine ⟨u3, g3, rfl, c2, ?_, ?_, ?_, fun ha => ?_, c4, c5, hX3, by omega⟩
            · unfold kGd
              rw [tgd_1 hV3 c3.1 c3.2.1 c3.2.2 (by omega) (by omega) hlt1.1 hlt1.2]
              exact (iX_kGd a7 c6 a2).mpr a3
            · rw [htw, ← a4]
              have e : kTv σ3 g3 = _ := tvl_1 hV3 c3.1 c3.2.1 c3.2.2 (by omega) (by omega) hlt1.1 hlt1.2
              rw [e]
              have e1 : kTv σ3 g1 = kTv σ1 g1 := iX_kTv a7 c6 a2
              unfold kTv at e1 ⊢
              rw [e1]
            · have e : kDp σ3 g3 = 1 + max (kDp σ3 g1) 0 := tdp_1 hV3 c3.1 c3.2.1 c3.2.2 (by omega) (by omega) hlt1.1 hlt1.2
              have e1 := iX_kDp a7 c6 a2
              omega
            · rcases ha.2 with e | e
              · exact absurd (nI_inj (hk.symm.trans e)) (by omega)
              · exact absurd e.1 hk3
          refine kX_ret (i := .ireturn) (len := 1) rfl (Or.inr rfl) rfl (hf)
      · have q3 : kGd σ t := isB_ne.mp (qeqF q3)
        repeat refine kX_one rfl ?_
        refine kX_ret (i := .ireturn) (len := 1) rfl (Or.inr rfl) rfl (⟨u, t, rfl, htV, q3, (tW_gd h t htV q3).symm, by omega, fun ha => ha, h, hC, iX_refl σ K st n u, by omega⟩)
    · have q2 := qleF q2 dd 48
      omega
