section
/-! alike: groundOf -/
set_option maxRecDepth 100000 in
set_option maxHeartbeats 4000000 in
theorem mf_groundOf (L : Nat) (xs : Nat → Int32) (K st n A M vals m : Nat) (l : rwT) (W : Nat → Jvm.Term) (g0 : Nat → Int32) (hA : kT[A]? = some (.inl (0, M, .inl g0))) (hM : M ≤ 100000) (hA2 : (A < K ∨ K + 9 ≤ A) ∧ 13 ≤ A) (hvl : vals + 6 ≤ M) : ∀ (f d dd u : Nat) (σ : kS) (t : Nat), dd + f = 49 → kDp σ t + dd ≤ 48 → iE σ K st n u m l → cCn σ n → gR σ n → t < n → kSt σ n A vals W t → u + kSz σ t ≤ 577 → kXM kT L xs (d + f + 4) 50 [.ref K, .int (nI t), .ref A, .int (nI vals), .int (nI dd)] σ (gP σ K st n u m l W t) := by
  intro f
  induction f with
  | zero =>
    intro d dd u σ t hdd hdp h hC hG ht hs hsz
    omega
  | succ f ih =>
    intro d dd u σ t hdd hdp h hC hG ht hs hsz
    have hB := iE_nB h
    have hn := h.2.1
    have hb := isK_b hB.1
    have hV := iE_V h
    have htV : kV n st u t := Or.inl ht
    have hps := kSz_pos h htV
    unfold kXM
    iterate 1 (refine kX_one rfl ?_)
    refine kX_getN rfl rfl (kT_kn hB.1) rfl ?_
    iterate 1 (refine kX_one rfl ?_)
    refine kX_cal (mc_has L xs (d + f + 3) σ n (nI t) hn h.2.2.1) rfl (Or.inr rfl) rfl rfl rfl (fun r1 σ1 q1 => ?_)
    obtain ⟨rfl, rfl⟩ := q1
    repeat refine kX_one rfl ?_
    refine kX_ifF (decide_eq_false (isB_ne.mpr ⟨t, ht, rfl⟩)) ?_
    iterate 2 (refine kX_one rfl ?_)
    repeat refine kX_one rfl ?_
    refine kX_if (fun q2 => ?_) (fun q2 => ?_)
    · iterate 1 (refine kX_one rfl ?_)
      refine kX_getN rfl rfl (kT_kn hB.1) rfl ?_
      iterate 2 (refine kX_one rfl ?_)
      refine kX_baldV rfl rfl (by decide) (t) (by first | rfl | decide) (by omega) (hG t ht) ?_
      repeat refine kX_one rfl ?_
      refine kX_if (fun q3 => ?_) (fun q3 => ?_)
      · have q3 : ¬ kGd σ t := fun z => isB_ne.mpr z (qeq q3)
        iterate 1 (refine kX_one rfl ?_)
        refine kX_getN rfl rfl (kT_kn hB.1) rfl ?_
        iterate 2 (refine kX_one rfl ?_)
        rcases (hV t htV).2 with ⟨k, h3, hk, -, -⟩ | ⟨k, x, y, h3, hk, hx, hy, h4, h5, h6, h7⟩ | ⟨k, x, h3, hk, hx, hy, h4, h6⟩
        · obtain rfl : k = 3 := Classical.byContradiction fun z => q3 (by unfold kGd; rw [tgd_0 hk h3]; exact decide_eq_true z)
          have hvt : t ∈ kVs σ t := by
            unfold kVs tvs
            rw [tA_0 hk h3, if_pos hk]
            exact List.mem_singleton.mpr rfl
          obtain ⟨p, z, z1, z2, z3, z4, z5, z6, z7⟩ := hs t hvt
          refine kX_ialdV rfl rfl (by decide) (t) (by first | rfl | decide) (by omega) (hk) ?_
          iterate 2 (refine kX_one rfl ?_)
          iterate 3 (refine kX_one rfl ?_)
          refine kX_getN rfl rfl (kT_kn hB.1) rfl ?_
          iterate 2 (refine kX_one rfl ?_)
          refine kX_ialdV rfl rfl (by decide) (t) (by first | rfl | decide) (by omega) (z3) ?_
          iterate 1 (refine kX_one rfl ?_)
          refine kX_ialdV rfl hA hM (vals + p) (nI_add vals p) (by omega) z4 ?_
          refine kX_ret (i := .ireturn) (len := 1) rfl (Or.inr rfl) rfl ⟨u, z, rfl, Or.inl z2, z5, ?_, ?_, fun ha => ?_, h, hC, iX_refl σ K st n u, by omega⟩
          · rw [z6]
            unfold tW
            rw [tA_0 hk h3, if_pos hk]
          · have := h.2.2.2.2.2.2.2.2.1 z z2
            omega
          · refine ⟨z2, Or.inl (z7 ?_)⟩
            rcases ha.2 with e | e
            · exact absurd (nI_inj (hk.symm.trans e)) (by decide)
            · exact e.2
        · have hk3 : σ 2 t ≠ nI 3 := by rw [hk]; exact nI_ne (by omega)
          have hx1 : x < n := by omega
          have hy1 : y < n := by omega
          have hvx : kVs σ t = kVs σ x ++ kVs σ y := tA_2 hV hk hx hy (by omega) (by omega) h4 h5 h6 h7
          have hdt : kDp σ t = 1 + max (kDp σ x) (kDp σ y) := tdp_2 hV hk hx hy (by omega) (by omega) h4 h5 h6 h7
          have hst : kSz σ t = 1 + kSz σ x + kSz σ y := by
            unfold kSz tsz
            rw [tA_2 hV hk hx hy (by omega) (by omega) h4 h5 h6 h7]
            rfl
          have htw : tW σ W t = vnd k (tW σ W x) (some (tW σ W y)) := tA_2 hV hk hx hy (by omega) (by omega) h4 h5 h6 h7
          have hD23 := h.2.2.2.2.2.2.2.2.1 t ht
          refine kX_ialdV rfl rfl (by decide) (t) (by first | rfl | decide) (by omega) (hk) ?_
          iterate 1 (refine kX_one rfl ?_)
          repeat refine kX_one rfl ?_
          refine kX_ifT (decide_eq_true (show nI k ≠ nI 3 from nI_ne (by omega))) ?_
          iterate 2 (refine kX_one rfl ?_)
          refine kX_getN rfl rfl (kT_kn hB.1) rfl ?_
          iterate 2 (refine kX_one rfl ?_)
          refine kX_ialdV rfl rfl (by decide) (t) (by first | rfl | decide) (by omega) (hx) ?_
          iterate 5 (refine kX_one rfl ?_)
          have r1 := ih d (dd + 1) u σ x (by omega) (by omega) h hC hG hx1 (fun v hv => hs v (by rw [hvx]; exact List.mem_append_left _ hv)) (by omega)
          rw [← nI_1] at r1
          refine kX_cal (r1) rfl (Or.inr rfl) rfl (jcall_v rfl rfl rfl (kT_kn hB.1) rfl rfl) rfl (fun r1 σ1 q1 => ?_)
          obtain ⟨u1, g1, rfl, a2, a3, a4, a5, a6, a7, a8, a9, a10⟩ := q1
          have hE1 := iE_nB a7
          iterate 3 (refine kX_one rfl ?_)
          refine kX_getN rfl rfl (kT_kn hB.1) rfl ?_
          iterate 2 (refine kX_one rfl ?_)
          refine kX_ialdV rfl rfl (by decide) t (by rfl) (by omega) ((a9.2.2.1 t htV).2.2.trans hy) ?_
          iterate 5 (refine kX_one rfl ?_)
          have hsz1 := iX_kSz h a9 h7
          have hdp1 := iX_kDp h a9 h7
          have r2 := ih d (dd + 1) u1 σ1 y (by omega) (by omega) a7 a8 (iX_gR h a9 hG) hy1 (iX_kSt h a9 h7 hA2 (fun v hv => hs v (by rw [hvx]; exact List.mem_append_right _ hv))) (by omega)
          rw [← nI_1] at r2
          refine kX_cal (r2) rfl (Or.inr rfl) rfl (jcall_v rfl rfl rfl (kT_kn hB.1) rfl rfl) rfl (fun r1 σ2 q1 => ?_)
          obtain ⟨u2, g2, rfl, b2, b3, b4, b5, b6, b7, b8, b9, b10⟩ := q1
          rw [hdp1] at b5
          rw [hsz1] at b10
          have hX2 := iX_trans a9 b9
          have hg1 : kV n st u2 g1 := kV_up b9.1 a2
          have hkd : σ2 2 t = nI k := (hX2.2.2.1 t htV).1.trans hk
          iterate 3 (refine kX_one rfl ?_)
          refine kX_getN rfl rfl (kT_kn hB.1) rfl ?_
          iterate 2 (refine kX_one rfl ?_)
          refine kX_ialdV rfl rfl (by decide) (t) (by first | rfl | decide) (by omega) (hkd) ?_
          iterate 2 (refine kX_one rfl ?_)
          have hdg1 : kDp σ2 g1 = kDp σ1 g1 := iX_kDp a7 b9 a2
          have hw : nwP σ2 n st u2 k g1 g2 (nI g1) (nI g2) := by
            refine ⟨hg1, (iX_kGd a7 b9 a2).mpr a3, by omega, rfl, Or.inl ⟨?_, b2, b3, by omega, rfl⟩⟩
            rcases h3 with q | q | q
            · exact Or.inl q
            · exact Or.inr (Or.inl q)
            · exact Or.inr (Or.inr ⟨q.1, b6 ((iX_AG hB.1 a9).mpr q.2)⟩)
          refine kX_cal (mf_findOrPut L xs (d + f + 1) σ2 K st n u2 m k g1 g2 l (nI g1) (nI g2) b7 b8 (by omega) hw) rfl (Or.inr rfl) rfl (jcall_v rfl rfl rfl (kT_kn hB.1) rfl rfl) rfl (fun r1 σ3 q1 => ?_)
          obtain ⟨u3, g3, rfl, c2, c3, c4, c5, c6, c7⟩ := q1
          have hX3 := iX_trans hX2 c6
          have hg1l := iE_lt b7 hg1
          have hg2l := iE_lt b7 b2
          have hlt1 : g1 < g3 ∧ g2 < g3 ∧ kV n st u3 g1 ∧ kV n st u3 g2 := by
            rcases (iE_V c4 g3 c2).2 with ⟨k', y3, yk, yf, -⟩ | ⟨k', x', y', y3, yk, yx, yy, y4, y5, y6, y7⟩ | ⟨k', x', y3, yk, yx, yy, y4, y6⟩
            · exact absurd (c3.2.1.symm.trans yf) (nI_m1 (by omega))
            · have q6 := iE_lt c4 y6
              have q7 := iE_lt c4 y7
              obtain rfl : g1 = x' := nI_inj (c3.2.1.symm.trans yx)
              obtain rfl : g2 = y' := nI_inj (c3.2.2.symm.trans yy)
              exact ⟨y4, y5, y6, y7⟩
            · exact absurd (c3.2.2.symm.trans yy) (nI_m1 (by omega))
          have hV3 := iE_V c4
          have hf : gP σ K st n u m l W t (some (.int (nI g3))) σ3 := by
            refine ⟨u3, g3, rfl, c2, ?_, ?_, ?_, fun ha => ?_, c4, c5, hX3, by omega⟩
            · unfold kGd
              rw [tgd_2 hV3 c3.1 c3.2.1 c3.2.2 (by omega) (by omega) hlt1.1 hlt1.2.1 hlt1.2.2.1 hlt1.2.2.2, Bool.and_eq_true]
              exact ⟨(iX_kGd b7 c6 hg1).mpr ((iX_kGd a7 b9 a2).mpr a3), (iX_kGd b7 c6 b2).mpr b3⟩
            · rw [htw, ← a4, ← iX_tW h a9 h7, ← b4]
              have e : kTv σ3 g3 = _ := tvl_2 hV3 c3.1 c3.2.1 c3.2.2 (by omega) (by omega) hlt1.1 hlt1.2.1 hlt1.2.2.1 hlt1.2.2.2
              rw [e]
              have e1 : kTv σ3 g1 = kTv σ1 g1 := (iX_kTv b7 c6 hg1).trans (iX_kTv a7 b9 a2)
              have e2 : kTv σ3 g2 = kTv σ2 g2 := iX_kTv b7 c6 b2
              unfold kTv at e1 e2 ⊢
              rw [e1, e2]
            · have e : kDp σ3 g3 = 1 + max (kDp σ3 g1) (kDp σ3 g2) := tdp_2 hV3 c3.1 c3.2.1 c3.2.2 (by omega) (by omega) hlt1.1 hlt1.2.1 hlt1.2.2.1 hlt1.2.2.2
              have e1 := iX_kDp b7 c6 hg1
              have e2 := iX_kDp b7 c6 b2
              omega
            · rcases ha.2 with e | e
              · exact absurd (nI_inj (hk.symm.trans e)) (by omega)
              · exact absurd e.1 hk3
          refine kX_ret (i := .ireturn) (len := 1) rfl (Or.inr rfl) rfl (hf)
        · have hk3 : σ 2 t ≠ nI 3 := by rw [hk]; exact nI_ne (by omega)
          have hx1 : x < n := by omega
          have hvx : kVs σ t = kVs σ x ++ [] := tA_1 hV hk hx hy (by omega) (by omega) h4 h6
          have hdt : kDp σ t = 1 + max (kDp σ x) 0 := tdp_1 hV hk hx hy (by omega) (by omega) h4 h6
          have hst : kSz σ t = 1 + kSz σ x + 0 := by
            unfold kSz tsz
            rw [tA_1 hV hk hx hy (by omega) (by omega) h4 h6]
            rfl
          have htw : tW σ W t = vnd k (tW σ W x) none := tA_1 hV hk hx hy (by omega) (by omega) h4 h6
          have hD23 := h.2.2.2.2.2.2.2.2.1 t ht
          refine kX_ialdV rfl rfl (by decide) (t) (by first | rfl | decide) (by omega) (hk) ?_
          iterate 1 (refine kX_one rfl ?_)
          repeat refine kX_one rfl ?_
          refine kX_ifT (decide_eq_true (show nI k ≠ nI 3 from nI_ne (by omega))) ?_
          iterate 2 (refine kX_one rfl ?_)
          refine kX_getN rfl rfl (kT_kn hB.1) rfl ?_
          iterate 2 (refine kX_one rfl ?_)
          refine kX_ialdV rfl rfl (by decide) (t) (by first | rfl | decide) (by omega) (hx) ?_
          iterate 5 (refine kX_one rfl ?_)
          have r1 := ih d (dd + 1) u σ x (by omega) (by omega) h hC hG hx1 (fun v hv => hs v (by rw [hvx]; exact List.mem_append_left _ hv)) (by omega)
          rw [← nI_1] at r1
          refine kX_cal (r1) rfl (Or.inr rfl) rfl (jcall_v rfl rfl rfl (kT_kn hB.1) rfl rfl) rfl (fun r1 σ1 q1 => ?_)
          obtain ⟨u1, g1, rfl, a2, a3, a4, a5, a6, a7, a8, a9, a10⟩ := q1
          iterate 3 (refine kX_one rfl ?_)
          refine kX_getN rfl rfl (kT_kn hB.1) rfl ?_
          iterate 2 (refine kX_one rfl ?_)
          refine kX_ialdV rfl rfl (by decide) t (by rfl) (by omega) ((a9.2.2.1 t htV).2.2.trans hy) ?_
          iterate 5 (refine kX_one rfl ?_)
          have r2 : kXM kT L xs (d + f + 4) 50 [.ref K, .int (-1), .ref A, .int (nI vals), .int (nI dd + Int32.ofInt 1)] σ1 (fun r σ' => r = some (.int (-1)) ∧ σ1 = σ') := by
            unfold kXM
            iterate 1 (refine kX_one rfl ?_)
            refine kX_getN rfl rfl (kT_kn hB.1) rfl ?_
            iterate 1 (refine kX_one rfl ?_)
            refine kX_cal (mc_has L xs (d + f + 2) σ1 n (-1) hn a7.2.2.1) rfl (Or.inr rfl) rfl rfl rfl (fun r1 σ1 q1 => ?_)
            obtain ⟨rfl, rfl⟩ := q1
            repeat refine kX_one rfl ?_
            refine kX_ifT (decide_eq_true (isB_F (fun ⟨j, j1, j2⟩ => nI_m1 (by omega) j2.symm))) ?_
            repeat refine kX_one rfl ?_
            refine kX_ret (i := .ireturn) (len := 1) rfl (Or.inr rfl) rfl (⟨rfl, rfl⟩)
          refine kX_cal (r2) rfl (Or.inr rfl) rfl (jcall_v rfl rfl rfl (kT_kn hB.1) rfl rfl) rfl (fun r1 σ2 q1 => ?_)
          obtain ⟨rfl, rfl⟩ := q1
          have hkd : σ1 2 t = nI k := (a9.2.2.1 t htV).1.trans hk
          iterate 3 (refine kX_one rfl ?_)
          refine kX_getN rfl rfl (kT_kn hB.1) rfl ?_
          iterate 2 (refine kX_one rfl ?_)
          refine kX_ialdV rfl rfl (by decide) (t) (by first | rfl | decide) (by omega) (hkd) ?_
          iterate 2 (refine kX_one rfl ?_)
          have hw : nwP σ1 n st u1 k g1 0 (nI g1) (-1) := by
            refine ⟨a2, a3, by omega, rfl, Or.inr ⟨?_, rfl⟩⟩
            rcases h3 with q | q
            · exact Or.inl q
            · exact Or.inr ⟨q.1, a6 q.2⟩
          refine kX_cal (mf_findOrPut L xs (d + f + 1) σ1 K st n u1 m k g1 0 l (nI g1) (-1) a7 a8 (by omega) hw) rfl (Or.inr rfl) rfl (jcall_v rfl rfl rfl (kT_kn hB.1) rfl rfl) rfl (fun r1 σ3 q1 => ?_)
          obtain ⟨u3, g3, rfl, c2, c3, c4, c5, c6, c7⟩ := q1
          have hX3 := iX_trans a9 c6
          have hg1l := iE_lt a7 a2
          have hlt1 : g1 < g3 ∧ kV n st u3 g1 := by
            rcases (iE_V c4 g3 c2).2 with ⟨k', y3, yk, yf, -⟩ | ⟨k', x', y', y3, yk, yx, yy, y4, y5, y6, y7⟩ | ⟨k', x', y3, yk, yx, yy, y4, y6⟩
            · exact absurd (c3.2.1.symm.trans yf) (nI_m1 (by omega))
            · have q7 := iE_lt c4 y7
              exact absurd (yy.symm.trans c3.2.2) (nI_m1 (by omega))
            · have q6 := iE_lt c4 y6
              obtain rfl : g1 = x' := nI_inj (c3.2.1.symm.trans yx)
              exact ⟨y4, y6⟩
          have hV3 := iE_V c4
          have hf : gP σ K st n u m l W t (some (.int (nI g3))) σ3 := by
            refine ⟨u3, g3, rfl, c2, ?_, ?_, ?_, fun ha => ?_, c4, c5, hX3, by omega⟩
            · unfold kGd
              rw [tgd_1 hV3 c3.1 c3.2.1 c3.2.2 (by omega) (by omega) hlt1.1 hlt1.2]
              exact (iX_kGd a7 c6 a2).mpr a3
            · rw [htw, ← a4]
              have e : kTv σ3 g3 = _ := tvl_1 hV3 c3.1 c3.2.1 c3.2.2 (by omega) (by omega) hlt1.1 hlt1.2
              rw [e]
              have e1 : kTv σ3 g1 = kTv σ1 g1 := iX_kTv a7 c6 a2
              unfold kTv at e1 ⊢
              rw [e1]
            · have e : kDp σ3 g3 = 1 + max (kDp σ3 g1) 0 := tdp_1 hV3 c3.1 c3.2.1 c3.2.2 (by omega) (by omega) hlt1.1 hlt1.2
              have e1 := iX_kDp a7 c6 a2
              omega
            · rcases ha.2 with e | e
              · exact absurd (nI_inj (hk.symm.trans e)) (by omega)
              · exact absurd e.1 hk3
          refine kX_ret (i := .ireturn) (len := 1) rfl (Or.inr rfl) rfl (hf)
      · have q3 : kGd σ t := isB_ne.mp (qeqF q3)
        repeat refine kX_one rfl ?_
        refine kX_ret (i := .ireturn) (len := 1) rfl (Or.inr rfl) rfl (⟨u, t, rfl, htV, q3, (tW_gd h t htV q3).symm, by omega, fun ha => ha, h, hC, iX_refl σ K st n u, by omega⟩)
    · have q2 := qleF q2 dd 48
      omega
end
section
/-! alike: an intruder starts -/
theorem tdp_sz {V AG : Nat → Prop} {K F S : Nat → Int32} (hV : ∀ t, V t → t < 100000 ∧ tOk V AG K F S t) : ∀ t, V t → tdp K F S t + 1 ≤ tsz K F S t := by
  intro t
  induction t using Nat.strongRecOn with
  | _ t ih =>
    intro ht
    rcases (hV t ht).2 with ⟨k, h3, hk, -, -⟩ | ⟨k, x, y, h3, hk, hx, hy, h4, h5, h6, h7⟩ | ⟨k, x, h3, hk, hx, hy, h4, h6⟩
    · unfold tdp tsz
      rw [tA_0 hk h3, tA_0 hk h3]
      exact Nat.le_refl _
    · have a1 := ih x h4 h6
      have a2 := ih y h5 h7
      have e1 : tsz K F S t = 1 + tsz K F S x + tsz K F S y := tA_2 hV hk hx hy (by omega) (by omega) h4 h5 h6 h7
      rw [tdp_2 hV hk hx hy (by omega) (by omega) h4 h5 h6 h7, e1]
      omega
    · have a1 := ih x h4 h6
      have e1 : tsz K F S t = 1 + tsz K F S x + 0 := tA_1 hV hk hx hy (by omega) (by omega) h4 h6
      rw [tdp_1 hV hk hx hy (by omega) (by omega) h4 h6, e1]
      omega
/-- both tables, folded -/
theorem aT_A {α : Type} {lf lf' : Nat → α} {nd : Nat → α → Option α → α} {σ : kS} {n b : Nat} (hT : mTb σ n b) (hA : ∀ t, t < n → aT1 σ t) (hl : ∀ t, t < n → lf' t = lf t) {t : Nat} (ht : t < n) : tA lf' nd (σ 2) (σ 3) (σ 4) t = tA lf nd (σ 233) (σ 234) (σ 235) t :=
  tA_congr (mTb_num hT) (fun t ht => by obtain ⟨a, b, c, -⟩ := hA t ht; exact ⟨a, b, c, hl t ht⟩) t ht
theorem aT_tv {σ : kS} {n b t : Nat} (hT : mTb σ n b) (hA : ∀ t, t < n → aT1 σ t) (ht : t < n) : kTv σ t = tvl (σ 233) (σ 234) (σ 235) t := aT_A hT hA (fun _ _ => rfl) ht
theorem aT_gd {σ : kS} {n b t : Nat} (hT : mTb σ n b) (hA : ∀ t, t < n → aT1 σ t) (ht : t < n) : tgd (σ 2) (σ 3) (σ 4) t = tgd (σ 233) (σ 234) (σ 235) t := aT_A hT hA (fun t ht => by rw [(hA t ht).1]) ht
theorem aT_vs {σ : kS} {n b t : Nat} (hT : mTb σ n b) (hA : ∀ t, t < n → aT1 σ t) (ht : t < n) : kVs σ t = tvs (σ 233) (σ 234) (σ 235) t := aT_A hT hA (fun t ht => by rw [(hA t ht).1]) ht
theorem aT_dp {σ : kS} {n b t : Nat} (hT : mTb σ n b) (hA : ∀ t, t < n → aT1 σ t) (ht : t < n) : kDp σ t ≤ 23 ∧ kSz σ t ≤ 24 := by
  have e1 : kDp σ t = tdp (σ 233) (σ 234) (σ 235) t := aT_A hT hA (fun _ _ => rfl) ht
  have e2 : kSz σ t = tsz (σ 233) (σ 234) (σ 235) t := by unfold kSz tsz; exact aT_A hT hA (fun _ _ => rfl) ht
  have h1 := tdp_sz (mTb_num hT) t ht
  have h2 := hT.2.2.2.2.2.2.2.2.2 t ht
  rw [e1, e2]
  omega
theorem aT_gR {σ : kS} {n b : Nat} (hT : mTb σ n b) (hA : ∀ t, t < n → aT1 σ t) : gR σ n := by
  intro t ht
  rw [(hA t ht).2.2.2.2.1, hT.2.2.2.2.2.2.1 t (Or.inl ht), ← aT_gd hT hA ht]
  unfold kGd
  cases tgd (σ 2) (σ 3) (σ 4) t
  · exact (isB_F (by decide)).symm
  · exact (isB_T rfl).symm
theorem aT_W {σ : kS} {n b st : Nat} (hT : mTb σ n b) (hA : ∀ t, t < n → aT1 σ t) : tbW (kV n st 0) (kAG σ n) (σ 2) (σ 3) (σ 4) (σ 5) := by
  have hv : ∀ t, kV n st 0 t → t < n := fun t ht => by unfold kV at ht; omega
  refine ⟨fun t ht => ⟨(mTb_num hT t (hv t ht)).1, ?_⟩, fun t ht => ?_, fun t u ht hu h1 h2 h3 h4 => ?_⟩
  · obtain ⟨a, b', c, -⟩ := hA t (hv t ht)
    refine tOk_mono (fun x _ q => Or.inl q) (fun x hx q => ⟨q.1, ?_⟩) a b' c (mTb_num hT t (hv t ht)).2
    have hx := hA x q.1
    rcases q.2 with e | e
    · exact Or.inl (hx.1.trans e)
    · exact Or.inr ⟨hx.1.trans e.1, (hx.2.2.2.2.2.2 e.1).2.1.trans e.2⟩
  · have e2 : tsz (σ 2) (σ 3) (σ 4) t = tsz (σ 233) (σ 234) (σ 235) t := by unfold tsz; exact aT_A hT hA (fun _ _ => rfl) (hv t ht)
    rw [e2, (hA t (hv t ht)).2.2.2.1]
    exact hT.2.2.2.2.2.1.2.1 t (Or.inl (hv t ht))
  · obtain ⟨a, b', c, -⟩ := hA t (hv t ht)
    obtain ⟨a2, b2, c2, -⟩ := hA u (hv u hu)
    refine hT.2.2.2.2.2.1.2.2 t u (Or.inl (hv t ht)) (Or.inl (hv u hu)) ?_ ?_ ?_ ?_
    · rw [← a]
      exact h1
    · rw [← a, ← a2]
      exact h2
    · rw [← b', ← b2]
      exact h3
    · rw [← c, ← c2]
      exact h4
theorem nI_nm2 {q m : Nat} (h : q ≤ m) (hm : m < 2147483646) : nI q ≠ nI (m + 1) ∧ -(nI q) ≠ nI (m + 1) ∧ nI q ≠ -(nI (m + 1)) ∧ -(nI q) ≠ -(nI (m + 1)) := by
  have e1 : (nI q).toInt = (q : Int) := nI_toInt (by omega)
  have e2 : (nI (m + 1)).toInt = ((m + 1 : Nat) : Int) := nI_toInt (by omega)
  have e3 : (-(nI q)).toInt = -(q : Int) := by
    rw [Int32.toInt_neg, e1, Int.bmod_def]
    omega
  have e4 : (-(nI (m + 1))).toInt = -((m + 1 : Nat) : Int) := by
    rw [Int32.toInt_neg, e2, Int.bmod_def]
    omega
  refine ⟨fun e => ?_, fun e => ?_, fun e => ?_, fun e => ?_⟩ <;> have e := congrArg Int32.toInt e <;> simp only [e1, e2, e3, e4] at e <;> omega
/-- what start leaves -/
def ksP (σ τ : kS) (K st m : Nat) : Prop := (∀ c, c < K ∨ K + 2 ≤ c → τ c = σ c) ∧ τ K 1 = nI st ∧ τ K 3 = 0 ∧ τ K 7 = 0 ∧ (∀ s, s < 256 → τ (K + 1) s = -1) ∧ τ K 12 = nI (m + 1) ∧ τ K 13 = 0
theorem iE_start {σ τ : kS} {K st n b m : Nat} (hK : isK K st) (hT : mTb σ n b) (hA : aT σ n) (hct : σ 1 11 = nI n) (hM : kMs σ K m) (hm : m < 2147483646) (h : ksP σ τ K st m) : iE τ K st n 0 (m + 1) [] ∧ cCn τ n ∧ gR τ n := by
  have hb := isK_b hK
  obtain ⟨e, g2, g3, g4, g5, g6, g7⟩ := h
  have ec : ∀ c, c < 186 ∨ 222 ≤ c → τ c = σ c := fun c hc => e c (by omega)
  have eA : ∀ {l : List Nat}, l.all (fun c => decide (c < 186 ∨ 222 ≤ c)) = true → eqC σ τ l := fun h c hc => ec c (of_decide_eq_true (List.all_eq_true.mp h c hc))
  have hT2 : mTb τ n b := by
    have he : ∀ c, 232 ≤ c → τ c = σ c := fun c hc => ec c (by omega)
    unfold mTb mAG mpt at hT ⊢
    simp only [he 232 (by decide), he 233 (by decide), he 234 (by decide), he 235 (by decide), he 236 (by decide), he 237 (by decide), he 240 (by decide), he 242 (by decide), he 243 (by decide)]
    exact hT
  have hA2 : aT τ n := aT_c (fun c c1 c2 => ec c (by omega)) (eA (by decide)) hA
  have hmk : kMs τ K (m + 1) := by
    obtain ⟨w1, w2, w3, w4⟩ := hM
    unfold kMs
    rw [e (K + 5) (by omega), e (K + 6) (by omega), e (K + 7) (by omega)]
    refine ⟨g6, fun g hg => ?_, fun g hg => ?_, fun a ha => ?_⟩
    · obtain ⟨q, q1, q2⟩ := w2 g hg
      exact ⟨q, by omega, q2⟩
    · obtain ⟨q, q1, q2⟩ := w3 g hg
      exact ⟨q, by omega, q2⟩
    · obtain ⟨q, q1, q2⟩ := w4 a ha
      exact ⟨q, by omega, q2⟩
  have n5 : ∀ g, g < 1928 → τ (K + 5) g ≠ nI (m + 1) := fun g hg z => by
    rw [e (K + 5) (by omega)] at z
    obtain ⟨q, q1, q2⟩ := hM.2.1 g hg
    exact (nI_nm2 q1 hm).1 (q2.symm.trans z)
  have n6 : ∀ g, g < 1928 → τ (K + 6) g ≠ nI (m + 1) ∧ τ (K + 6) g ≠ -(nI (m + 1)) := fun g hg => by
    rw [e (K + 6) (by omega)]
    obtain ⟨q, q1, q2⟩ := hM.2.2.1 g hg
    obtain ⟨x1, x2, x3, x4⟩ := nI_nm2 q1 hm
    rcases q2 with q2 | q2 <;> rw [q2]
    · exact ⟨x1, x3⟩
    · exact ⟨x2, x4⟩
  have n7 : ∀ a, a < 200 → τ (K + 7) a ≠ nI (m + 1) := fun a ha z => by
    rw [e (K + 7) (by omega)] at z
    obtain ⟨q, q1, q2⟩ := hM.2.2.2 a ha
    exact (nI_nm2 q1 hm).1 (q2.symm.trans z)
  have hn := hT.1
  have hlt : ∀ g, kV n st 0 g → g < 1928 := fun g hg => by unfold kV at hg; omega
  have hno : ∀ t, ¬ rwI [] t := fun t ⟨q, q1, _⟩ => absurd q1 List.not_mem_nil
  refine ⟨⟨hK, hn, by rw [ec 1 (by decide)]; exact hct, hA2.1, ⟨Nat.zero_le _, g3, g2, aT_W hT2 hA2.1, fun g x1 x2 => by omega, fun s hs => ?_, fun t ht => absurd ht (by omega)⟩, hmk, ⟨by omega, by omega⟩, ⟨g4, fun i hi => absurd hi (Nat.not_lt_zero i), fun t ht => absurd ht (hno t), List.Pairwise.nil, fun g hg => ⟨fun z => absurd z (n5 g (hlt g hg)), fun z => absurd z (hno g)⟩, fun a ha => ⟨fun z => absurd z (n7 a (by omega)), fun ⟨t, t1, _⟩ => absurd t1 (hno t)⟩, fun t ht => absurd ht (hno t), fun g hg _ => ⟨fun z => absurd z (n6 g (hlt g hg)).1, fun z => absurd z (n6 g (hlt g hg)).2⟩⟩, fun t ht => (aT_dp hT2 hA2.1 ht).1, fun g hg _ => ⟨n5 g hg, (n6 g hg).1, (n6 g hg).2⟩⟩, hA2.2, aT_gR hT2 hA2.1⟩
  rw [g5 s hs]
  exact Or.inl ⟨rfl, fun t _ ht => absurd ht.1 (by omega)⟩
set_option maxRecDepth 100000 in
set_option maxHeartbeats 4000000 in
theorem mf_kStart (L : Nat) (xs : Nat → Int32) (d : Nat) (σ : kS) (K st n u m : Nat) (h : nB σ K st n u) (he : cKe σ K st u) (hms : σ K 12 = nI m) : kXM kT L xs (d + 2) 45 [.ref K] σ (fun r σ' => r = none ∧ ksP σ σ' K st m) := by
  obtain ⟨h1, h2, h3, h4, h5, h6⟩ := h
  have hb := isK_b h1
  unfold kXM
  have k60 : ∀ HD, (∀ s, s < 256 → HD s = -1) → ∀ g, kX kT L xs (d + 2) 45 60 [(1, .int (nI g)), (0, .ref K)] [] (va_up σ (K + 1) HD) (fun r σ' => r = none ∧ ksP σ σ' K st m) := by
    intro HD hHD g
    iterate 2 (refine kX_one rfl ?_)
    refine kX_putN rfl rfl (kT_kn h1) rfl (rfl) rfl ?_
    iterate 2 (refine kX_one rfl ?_)
    refine kX_putN rfl rfl (kT_kn h1) rfl (rfl) rfl ?_
    iterate 2 (refine kX_one rfl ?_)
    refine kX_getN rfl rfl (kT_kn h1) rfl ?_
    iterate 2 (refine kX_one rfl ?_)
    refine kX_putN rfl rfl (kT_kn h1) rfl (rfl) rfl ?_
    iterate 2 (refine kX_one rfl ?_)
    refine kX_putN rfl rfl (kT_kn h1) rfl (rfl) rfl ?_
    refine kX_ret (i := .return_) (len := 1) rfl (Or.inr rfl) rfl ⟨rfl, fun c hc => ?_, ?_, ?_, ?_, fun s hs => ?_, ?_, ?_⟩
    · rw [up_ne (by omega), up_ne (by omega), up_ne (by omega), up_ne (by omega), up_ne (by omega)]
    · simp only [up_eq]
      rw [up_ne (by omega)]
      exact h5
    · simp only [up_eq]
      rfl
    · simp only [up_eq]
      rfl
    · rw [up_ne (by omega), up_ne (by omega), up_ne (by omega), up_ne (by omega), up_eq]
      exact hHD s hs
    · simp only [up_eq]
      rw [up_ne (by omega)]
      show σ K 12 + Int32.ofInt 1 = _
      rw [hms]
      exact nI_1 _
    · simp only [up_eq]
      rfl
  have loop : ∀ q : Nat × (Nat → Int32), (st ≤ q.1 ∧ q.1 ≤ st + u ∧ ∀ s, s < 256 → q.2 s = -1 ∨ ∃ g', q.1 ≤ g' ∧ g' < st + u ∧ q.2 s = nI g' ∧ cSl (σ 2 g') (σ 3 g') (σ 4 g') = nI s) → kX kT L xs (d + 2) 45 5 [(1, .int (nI q.1)), (0, .ref K)] [] (va_up σ (K + 1) q.2) (fun r σ' => r = none ∧ ksP σ σ' K st m) := by
    refine kX_while (fun q : Nat × (Nat → Int32) => [(1, .int (nI q.1)), (0, .ref K)]) (fun q => va_up σ (K + 1) q.2) _ (fun q => st + u - q.1) ?_
    rintro ⟨g, HD⟩ ⟨i1, i2, i3⟩ ih
    dsimp only at i1 i2 i3 ih ⊢
    iterate 2 (refine kX_one rfl ?_)
    refine kX_getN rfl rfl (kT_kn h1) rfl ?_
    refine kX_top (y := nI st) (by rw [up_ne (by omega)]; exact h5) ?_
    iterate 1 (refine kX_one rfl ?_)
    refine kX_getN rfl rfl (kT_kn h1) rfl ?_
    refine kX_top (y := nI u) (by rw [up_ne (by omega)]; exact h6) ?_
    iterate 1 (refine kX_one rfl ?_)
    refine kX_top (nI_add st u) ?_
    repeat refine kX_one rfl ?_
    refine kX_if (fun q => ?_) (fun q => ?_)
    · have q := qge q g (st + u)
      refine k60 HD (fun s hs => ?_) g
      rcases i3 s hs with e | ⟨g', g1, g2, -⟩
      · exact e
      · omega
    · have q := qgeF q g (st + u)
      have hg : g < 1928 := by omega
      obtain ⟨sl, s1, s2⟩ := cSl_lt (σ 2 g) (σ 3 g) (σ 4 g)
      have eT : ∀ c, c < 13 → va_up σ (K + 1) HD c = σ c := fun c hc => up_ne (by omega)
      iterate 1 (refine kX_one rfl ?_)
      refine kX_getN rfl rfl (kT_kn h1) rfl ?_
      iterate 1 (refine kX_one rfl ?_)
      refine kX_getN rfl rfl (kT_kn h1) rfl ?_
      iterate 2 (refine kX_one rfl ?_)
      refine kX_ialdV rfl rfl (by decide) (g) (by first | rfl | decide) (hg) (congrFun (eT _ (by decide)) g) ?_
      iterate 1 (refine kX_one rfl ?_)
      refine kX_getN rfl rfl (kT_kn h1) rfl ?_
      iterate 2 (refine kX_one rfl ?_)
      refine kX_ialdV rfl rfl (by decide) (g) (by first | rfl | decide) (hg) (congrFun (eT _ (by decide)) g) ?_
      iterate 1 (refine kX_one rfl ?_)
      refine kX_getN rfl rfl (kT_kn h1) rfl ?_
      iterate 2 (refine kX_one rfl ?_)
      refine kX_ialdV rfl rfl (by decide) (g) (by first | rfl | decide) (hg) (congrFun (eT _ (by decide)) g) ?_
      refine kX_cal (mc_slot L xs d _ (σ 2 g) (σ 3 g) (σ 4 g)) rfl (Or.inr rfl) rfl rfl rfl (fun r1 σ1 q1 => ?_)
      obtain ⟨rfl, rfl⟩ := q1
      iterate 1 (refine kX_one rfl ?_)
      refine kX_iastN rfl (kT_k1 h1) (by decide) (sl) (s2) (s1) ?_
      iterate 2 (refine kX_one rfl ?_)
      have := ih (g + 1, upd HD sl (-1)) ⟨by simp only; omega, q, fun s hs => by
        simp only
        by_cases e : s = sl
        · subst e
          exact Or.inl pk_us
        · rw [pk_un e]
          rcases i3 s hs with x | ⟨g', g1, g2, g3, g4⟩
          · exact Or.inl x
          · refine Or.inr ⟨g', ?_, g2, g3, g4⟩
            have : g' ≠ g := fun z => by
              subst z
              exact e (nI_inj (g4.symm.trans s2))
            omega⟩ (by simp only; omega)
      dsimp only at this
      rw [← nI_1] at this
      refine kX_to _ _ rfl rfl rfl ?_ this
      rw [up_eq, kup_up]
      rfl
  iterate 1 (refine kX_one rfl ?_)
  refine kX_getN rfl rfl (kT_kn h1) rfl ?_
  refine kX_top (h5) ?_
  iterate 1 (refine kX_one rfl ?_)
  have := loop (st, σ (K + 1)) ⟨Nat.le_refl _, by simp only; omega, fun s hs => ?_⟩
  · dsimp only at this
    rw [kup_self] at this
    exact kX_lv _ rfl rfl rfl this
  · exact he.1 s hs
end
section
/-! alike: beginKnowledge, gather, intruder -/
theorem trKn_take {σ : kS} {kl : List Nat} {i : Nat} (h : i < kl.length) : trKn σ (kl.take (i + 1)) = trA (trKn σ (kl.take i)) (tvl (σ 233) (σ 234) (σ 235) (kl[i]'h)) (nI 0) (-6) := by
  unfold trKn
  rw [List.take_succ_eq_append_getElem h, List.foldl_append]
  rfl
/-- an intruder that begins -/
def bkP (σ σ' : kS) (K st n m : Nat) (kl : List Nat) : Prop := nF2 σ σ' K st ∧ ∃ l, iE σ' K st n 0 m l ∧ cCn σ' n ∧ gR σ' n ∧ kTr σ' l = trKn σ kl ∧ σ' K 13 = 0
theorem cCn_P {σ τ : kS} {K st n : Nat} (hK : isK K st) (h : nP σ τ K) (hC : cCn σ n) : cCn τ n := by
  have hb := isK_b hK
  unfold cCn cpt at hC ⊢
  rw [h.1 2 (by omega), h.1 3 (by omega), h.1 4 (by omega), h.1 7 (by omega), h.1 6 (by omega)]
  exact hC
theorem gR_P {σ τ : kS} {K st n : Nat} (hK : isK K st) (h : nP σ τ K) (hC : gR σ n) : gR τ n := by
  have hb := isK_b hK
  unfold gR kGd at hC ⊢
  rw [h.1 2 (by omega), h.1 3 (by omega), h.1 4 (by omega), h.1 8 (by omega)]
  exact hC
set_option maxRecDepth 100000 in
set_option maxHeartbeats 4000000 in
theorem mf_beginKn (L : Nat) (xs : Nat → Int32) (d : Nat) (σ : kS) (K st n b u m : Nat) (kl : List Nat) (hB : nB σ K st n u) (he : cKe σ K st u) (hT : mTb σ n b) (hA : aT σ n) (hM : kMs σ K m) (hm : m < 2147483646) (hk : aK σ kl) (hkn : mKn σ n kl) : kXM kT L xs (d + 3) 21 [.ref 13, .ref K] σ (fun r σ' => r = none ∧ bkP σ σ' K st n (m + 1) kl) := by
  have hb := isK_b hB.1
  have hkl := hkn.2.1
  unfold kXM
  iterate 1 (refine kX_one rfl ?_)
  refine kX_cal (mf_kStart L xs d σ K st n u m hB he hM.1) rfl (Or.inr rfl) rfl (jcall_v rfl rfl rfl (kT_kn hB.1) rfl rfl) rfl (fun r1 σ1 q1 => ?_)
  obtain ⟨rfl, hS⟩ := q1
  obtain ⟨hE1, hC1, hG1⟩ := iE_start hB.1 hT hA hB.2.2.2.1 hM hm hS
  have g1 := hS.1
  have hF1 : nF2 σ σ1 K st := by
    refine ⟨⟨fun c a1 _ _ _ _ _ => g1 c (by omega), fun j _ => ?_⟩, fun j _ => by rw [g1 5 (by omega)]⟩
    rw [g1 2 (by omega), g1 3 (by omega), g1 4 (by omega), g1 6 (by omega)]
    exact ⟨rfl, rfl, rfl, rfl⟩
  have hc1 : eqC σ σ1 kCl := fun c hc => g1 c (by have := of_decide_eq_true (List.all_eq_true.mp (show kCl.all (fun c => decide (c < 186 ∨ 222 ≤ c)) = true by decide) c hc); omega)
  have loop : ∀ q : Nat × kS × rwT, (q.1 ≤ kl.length ∧ nP σ1 q.2.1 K ∧ iE q.2.1 K st n 0 (m + 1) q.2.2 ∧ q.2.1 K 13 = 0 ∧ kTr q.2.1 q.2.2 = trKn σ (kl.take q.1)) → kX kT L xs (d + 3) 21 6 [(2, .int (nI q.1)), (0, .ref 13), (1, .ref K)] [] q.2.1 (fun r σ' => r = none ∧ bkP σ σ' K st n (m + 1) kl) := by
    refine kX_while (fun q : Nat × kS × rwT => [(2, .int (nI q.1)), (0, .ref 13), (1, .ref K)]) (fun q => q.2.1) _ (fun q => kl.length - q.1) ?_
    rintro ⟨i, τ, l⟩ ⟨i1, i2, i3, i4, i5⟩ ih
    dsimp only at i1 i2 i3 i4 i5 ih ⊢
    have e13 : ∀ c, 13 ≤ c → c < 181 → τ c = σ c := fun c c1 c2 => (i2.1 c (by omega)).trans (g1 c (by omega))
    iterate 3 (refine kX_one rfl ?_)
    refine kX_top (y := nI kl.length) (by rw [e13 13 (by decide) (by decide)]; exact hk.1) ?_
    repeat refine kX_one rfl ?_
    refine kX_if (fun q => ?_) (fun q => ?_)
    · have q := qge q i kl.length
      obtain rfl : i = kl.length := by omega
      rw [List.take_length] at i5
      refine kX_ret (i := .return_) (len := 1) rfl (Or.inr rfl) rfl ⟨rfl, nF2_trans hF1 (nF2_P hB.1 i2), l, i3, cCn_P hB.1 i2 hC1, gR_P hB.1 i2 hG1, i5, i4⟩
    · have q := qgeF q i kl.length
      have hg := hkn.2.2.2 (kl[i]'q) (List.getElem_mem q)
      have hct : eqC σ τ kCl := fun c hc => (nP_c hB.1 i2 c hc).trans (hc1 c hc)
      have htv : kTv τ (kl[i]'q) = tvl (σ 233) (σ 234) (σ 235) (kl[i]'q) := by
        rw [kTv_c hct]
        exact aT_tv hT hA.1 hg.1
      have hgd : kGd τ (kl[i]'q) := by
        unfold kGd
        rw [hct 2 (by decide), hct 3 (by decide), hct 4 (by decide), aT_gd hT hA.1 hg.1]
        exact hg.2
      iterate 4 (refine kX_one rfl ?_)
      refine kX_ialdV rfl rfl (by decide) (i) (by first | rfl | decide) (by omega) ((congrFun (e13 _ (by decide) (by decide)) i).trans (hk.2 i q)) ?_
      iterate 2 (refine kX_one rfl ?_)
      refine kX_cal (mf_add L xs d τ K st n 0 (m + 1) (kl[i]'q) l (Int32.ofInt 0) (Int32.ofInt (-1)) i3 (Or.inl hg.1) hgd i4) rfl (Or.inr rfl) rfl (jcall_v rfl rfl rfl (kT_kn hB.1) rfl rfl) rfl (fun r1 σ2 q1 => ?_)
      obtain ⟨rfl, a2, a3, a4⟩ := q1
      have hx : kTr σ2 (rwA l (kl[i]'q) (Int32.ofInt 0) (Int32.ofInt (-1))) = trKn σ (kl.take (i + 1)) := by
        rw [kTr_c (nP_c hB.1 a4), kTr_add i3 (Or.inl hg.1), i5, htv, trKn_take q]
        rfl
      iterate 3 (refine kX_one rfl ?_)
      have := ih (i + 1, σ2, rwA l (kl[i]'q) (Int32.ofInt 0) (Int32.ofInt (-1))) ⟨q, nP_trans i2 a4, a2, a3, hx⟩ (by simp only; omega)
      dsimp only at this
      rw [← nI_1] at this
      exact kX_lv _ rfl rfl rfl this
  iterate 2 (refine kX_one rfl ?_)
  exact kX_lv _ rfl rfl rfl (loop (0, σ1, []) ⟨Nat.zero_le _, nP_refl (iE_nR hE1), hE1, hS.2.2.2.2.2.2, rfl⟩)
/-- the RUN's intruder at work -/
def gI (σ τ : kS) (n u m : Nat) (l : rwT) : Prop := nF2 (va_up σ 184 (τ 184)) τ 186 200 ∧ iE τ 186 200 n u m l ∧ cCn τ n ∧ gR τ n
theorem gI_cell {σ τ : kS} {n u m : Nat} {l : rwT} (h : gI σ τ n u m l) {c : Nat} (c1 : c = 1 ∨ 7 ≤ c) (c2 : c ≠ 184) (c3 : c < 186 ∨ 195 ≤ c) : τ c = σ c := by
  have := h.1.1.1 c c3 (by omega) (by omega) (by omega) (by omega) (by omega)
  rw [up_ne c2] at this
  exact this
theorem gI_num {σ τ : kS} {n u m : Nat} {l : rwT} (h : gI σ τ n u m l) {t : Nat} (ht : t < n) : τ 2 t = σ 2 t ∧ τ 3 t = σ 3 t ∧ τ 4 t = σ 4 t := by
  have hn := h.2.1.2.1
  have := h.1.1.2 t (by omega)
  exact ⟨this.1, this.2.1, this.2.2.1⟩
/-- turns alone changes -/
theorem gI_turn {σ τ : kS} {n u m : Nat} {l : rwT} (f : Nat → Int32) (h : gI σ τ n u m l) : gI σ (va_up τ 184 f) n u m l := by
  obtain ⟨h1, h2, h3, h4⟩ := h
  refine ⟨⟨⟨fun c a1 a2 a3 a4 a5 a6 => ?_, h1.1.2⟩, h1.2⟩, ?_, h3, h4⟩
  · by_cases e : c = 184
    · subst e
      rfl
    · have := h1.1.1 c a1 a2 a3 a4 a5 a6
      rw [up_ne e] at this ⊢
      rw [up_ne e]
      exact this
  · have e : ∀ c, c ≠ 184 → va_up τ 184 f c = τ c := fun c hc => up_ne hc
    exact h2
end
section
/-! alike: gather -/
theorem trSn_1 {σ : kS} {ds : List Nat} {tr : trT} {i s c : Nat} (h : i < ds.length) (hs : ds[i]'h = s) (hc : (ds.take i).count s = c) : trSn σ ds tr (i + 1) = cit (σ 249 (mEv σ s c) ≠ 0) (trA (trSn σ ds tr i) (tin σ s (fN (σ 248 (mEv σ s c)))) (nI 1) (-6)) (trSn σ ds tr i) := by
  have e : ds.getD i 0 = s := by rw [List.getD_eq_getElem?_getD, List.getElem?_eq_getElem h, ← hs]; rfl
  rw [trSn, e, hc]
theorem cnt_take {ds : List Nat} {i s : Nat} (h : i < ds.length) (hs : ds[i]'h = s) (z : Nat) : (ds.take (i + 1)).count z = (ds.take i).count z + if z = s then 1 else 0 := by
  rw [List.take_succ_eq_append_getElem h, List.count_append, hs, List.count_singleton]
  by_cases e : z = s
  · rw [if_pos e, if_pos (by simp [e])]
  · rw [if_neg e, if_neg (by simp; exact fun q => e q.symm)]
/-- the values of a session, as the class has them -/
theorem kSt_run {σ τ : kS} {n b s t A base : Nat} (hT : mTb σ n b) (hA : ∀ t, t < n → aT1 σ t) (ht : t < n) (hs : mSt σ n s t) (hv : ∀ k, k < 6 → nnI (τ A (base + k)) = σ 265 (6 * s + k)) (e1 : τ 12 = σ 12) (e2 : τ 11 = σ 11) (e3 : ∀ z, z < n → τ 2 z = σ 2 z ∧ τ 3 z = σ 3 z ∧ τ 4 z = σ 4 z) : kSt τ n A base (fun v => tvl (σ 233) (σ 234) (σ 235) (mVl σ s v)) t ∧ tW τ (fun v => tvl (σ 233) (σ 234) (σ 235) (mVl σ s v)) t = tin σ s t := by
  have hn := hT.1
  have hA' : ∀ {α : Type} {lf lf' : Nat → α} {nd : Nat → α → Option α → α} (_ : ∀ t, t < n → lf' t = lf t) {t : Nat} (_ : t < n), tA lf' nd (τ 2) (τ 3) (τ 4) t = tA lf nd (σ 233) (σ 234) (σ 235) t := fun hl t ht =>
    tA_congr (mTb_num hT) (fun t ht => by obtain ⟨a, b, c, -⟩ := hA t ht; obtain ⟨x, y, z⟩ := e3 t ht; exact ⟨x.trans a, y.trans b, z.trans c, hl t ht⟩) t ht
  have hk : ∀ t, t < n → τ 2 t = σ 233 t := fun t ht => (e3 t ht).1.trans (hA t ht).1
  refine ⟨fun v hvt => ?_, hA' (fun t ht => by rw [hk t ht]) ht⟩
  have hvs : kVs τ t = tvs (σ 233) (σ 234) (σ 235) t := hA' (fun t ht => by rw [hk t ht]) ht
  rw [hvs] at hvt
  obtain ⟨hv1, hv2, -⟩ := tvs_mem (mTb_num hT) t ht v hvt
  obtain ⟨p, z, z1, z2, z3, z4, z5, z6⟩ := hs v hvt
  obtain ⟨-, -, -, -, -, -, x7⟩ := hA v hv1
  obtain ⟨-, x8, x9⟩ := x7 hv2
  refine ⟨p, z, z1, z2, by rw [e1, x9]; exact z3, ?_, ?_, ?_, fun q => ?_⟩
  · have := hv p z1
    rw [z4] at this
    unfold nnI at this
    split at this
    · exact absurd (show nI z < 0 by rw [← this]; decide) (nI_pos (by omega))
    · exact this
  · unfold kGd tgd
    rw [hA' (lf := fun t => decide (σ 233 t ≠ nI 3)) (fun t ht => by rw [hk t ht]) z2]
    exact z5
  · have e : kTv τ z = tvl (σ 233) (σ 234) (σ 235) z := hA' (fun _ _ => rfl) z2
    rw [e]
    dsimp only
    unfold mVl
    rw [z3, fN_nI (by omega), z4, fN_nI (by omega)]
  · rw [e2, x8] at q
    rw [hk z z2]
    exact z6 q
/-- gathered -/
def gaP (σ σ' : kS) (n m : Nat) (tr : trT) : Prop := ∃ u l, gI σ σ' n u m l ∧ σ' 186 13 = 1 ∧ kTr σ' l = tr
/-- υ is σ with another RUN of the reference -/
def vw (σ υ : kS) : Prop := (∀ c, c ≠ 232 → c ≠ 264 → c ≠ 265 → c ≠ 274 → c ≠ 275 → υ c = σ c) ∧ ∀ j, j ≠ 52 → j ≠ 55 → j ≠ 47 → υ 232 j = σ 232 j
theorem vw_refl (σ : kS) : vw σ σ := ⟨fun _ _ _ _ _ _ => rfl, fun _ _ _ _ => rfl⟩
theorem vw_low {σ υ : kS} (h : vw σ υ) {c : Nat} (hc : c < 232) : υ c = σ c := h.1 c (by omega) (by omega) (by omega) (by omega) (by omega)
theorem vw_c {σ υ : kS} (h : vw σ υ) (l : List Nat) (hl : l.all (fun c => decide (c ≠ 232 ∧ c ≠ 264 ∧ c ≠ 265 ∧ c ≠ 274 ∧ c ≠ 275)) = true) : eqC υ σ l := eqC_of (fun c q => (h.1 c q.1 q.2.1 q.2.2.1 q.2.2.2.1 q.2.2.2.2).symm) l hl
theorem vw_Tb {σ υ : kS} {n b : Nat} (h : vw σ υ) (hT : mTb υ n b) : mTb σ n b := by
  have e := vw_c h [233, 234, 235, 236, 237, 240, 242, 243] (by decide)
  unfold mTb mAG mpt at hT ⊢
  rw [e 233 (by decide), e 234 (by decide), e 235 (by decide), e 236 (by decide), e 237 (by decide), e 240 (by decide), e 242 (by decide), e 243 (by decide), ← h.2 9 (by decide) (by decide) (by decide), ← h.2 10 (by decide) (by decide) (by decide)]
  exact hT
theorem vw_Kn {σ υ : kS} {n : Nat} {kl : List Nat} (h : vw σ υ) (hT : mKn υ n kl) : mKn σ n kl := by
  have e := vw_c h [233, 234, 235, 254] (by decide)
  unfold mKn at hT ⊢
  rw [e 233 (by decide), e 234 (by decide), e 235 (by decide), e 254 (by decide), ← h.2 26 (by decide) (by decide) (by decide)]
  exact hT
theorem vw_trKn {σ υ : kS} {kl : List Nat} (h : vw σ υ) : trKn σ kl = trKn υ kl := by
  have e := vw_c h [233, 234, 235] (by decide)
  unfold trKn
  rw [e 233 (by decide), e 234 (by decide), e 235 (by decide)]
set_option maxRecDepth 100000 in
set_option maxHeartbeats 4000000 in
theorem mf_gather (L : Nat) (xs : Nat → Int32) (d : Nat) (σ υ : kS) (n b R S C m : Nat) (kl ds : List Nat) (hv : vw σ υ) (h : aJ υ n b R S C kl m) (hm : m < 2147483646) (hr0 : υ 232 52 ≠ 0) (hD : mRn υ n R S ds) : kXM kT L xs (d + 54) 68 [.ref 181] σ (fun r σ' => r = none ∧ ∃ m', m' ≤ m + 1 ∧ gaP σ σ' n m' (trRun υ kl ds)) := by
  have hK : isK 186 200 := Or.inl ⟨rfl, rfl⟩
  obtain ⟨hI, hJ, hA, aR', aS', aC', aK', aU', aF', m1, m2, m3, hm1, -, -, hM, -, -⟩ := h
  obtain ⟨hTv, hRo, hSe, hKn, -⟩ := hI
  have hT := vw_Tb hv hTv
  have hKnv := vw_Kn hv hKn
  have hAv := hA
  have hA : aT σ n := aT_c (fun c c1 c2 => (vw_low hv (by omega)).symm) (vw_c hv _ (by decide)) hAv
  have hlo : ∀ c, c < 232 → υ c = σ c := fun c hc => vw_low hv hc
  obtain ⟨hcT, hcRo, hcSe, -, -, hKw, -⟩ := cJ_low (fun c hc => (hlo c hc).symm) hJ
  have hM := kMs_eq (fun c c1 c2 => (hlo c (by omega)).symm) hM
  have aK' : aK σ kl := aK_eq (by rw [hlo 13 (by decide)]) (hlo _ (by decide)).symm aK'
  have hn := hT.1
  have hS4 := hSe.1
  have hR4 := hRo.1
  have hlen := mRn_len hRo hS4 hD
  obtain ⟨uc, um, uv, -⟩ := aU'.2 hr0
  rw [hlo 181 (by decide)] at uc
  rw [hlo 183 (by decide)] at um
  rw [hlo 182 (by decide)] at uv
  obtain ⟨u0, hB0, hR0, he0⟩ := cKw_n hK hcT hKw
  have hfd : fN (υ 232 55) = ds.length := by rw [hD.1]; exact fN_nI (by omega)
  unfold kXM
  iterate 4 (refine kX_one rfl ?_)
  refine kX_cal (mf_beginKn L xs (d + 50) σ 186 200 n b u0 m1 kl hB0 he0 hT hA hM (by omega) aK' hKnv) rfl (Or.inr rfl) rfl rfl rfl (fun r1 ρ q1 => ?_)
  obtain ⟨rfl, hF0, l0, hE0, hC0, hG0, hTr0, hw0⟩ := q1
  iterate 3 (refine kX_one rfl ?_)
  refine kX_cal (kX_fill (T := kT) L xs (d + 52) 0 ρ (a := 184) (n := 4) (g0 := fun _ => 0) rfl (by decide)) rfl (Or.inr rfl) rfl rfl rfl (fun r1 σ1 q1 => ?_)
  obtain ⟨rfl, rfl⟩ := q1
  have e184 : ρ 184 = σ 184 := hF0.1.1 _ (by decide) (by decide) (by decide) (by decide) (by decide) (by decide)
  have hgI0 : gI σ ρ n 0 (m1 + 1) l0 := ⟨by rw [e184, kup_self]; exact hF0, hE0, hC0, hG0⟩
  have loop : ∀ q : Nat × kS × Nat × rwT, (q.1 ≤ ds.length ∧ gI σ q.2.1 n q.2.2.1 (m1 + 1) q.2.2.2 ∧ q.2.2.1 ≤ 24 * q.1 ∧ q.2.1 186 13 = 0 ∧ kTr q.2.1 q.2.2.2 = trSn υ ds (trKn υ kl) q.1 ∧ ∀ s, s < 4 → q.2.1 184 s = nI ((ds.take q.1).count s)) → kX kT L xs (d + 54) 68 21 [(1, .int (nI q.1)), (0, .ref 181)] [] q.2.1 (fun r σ' => r = none ∧ ∃ m', m' ≤ m + 1 ∧ gaP σ σ' n m' (trRun υ kl ds)) := by
    refine kX_while (fun q : Nat × kS × Nat × rwT => [(1, .int (nI q.1)), (0, .ref 181)]) (fun q => q.2.1) _ (fun q => ds.length - q.1) ?_
    rintro ⟨i, τ, u, l⟩ ⟨i1, i2, i3, i4, i5, i6⟩ ih
    dsimp only at i1 i2 i3 i4 i5 i6 ih ⊢
    iterate 3 (refine kX_one rfl ?_)
    refine kX_top (y := nI ds.length) (by rw [gI_cell i2 (c := 181) (by decide) (by decide) (by decide)]; exact uc.trans hD.1) ?_
    repeat refine kX_one rfl ?_
    refine kX_if (fun q => ?_) (fun q => ?_)
    · have q := qge q i ds.length
      obtain rfl : i = ds.length := by omega
      iterate 2 (refine kX_one rfl ?_)
      refine kX_cal (mf_takeApart L xs d τ 186 200 n u (m1 + 1) l i2.2.1 i4) rfl (Or.inr rfl) rfl rfl rfl (fun r1 σ1 q1 => ?_)
      obtain ⟨rfl, l', t1, t2, t3, t4⟩ := q1
      refine kX_ret (i := .return_) (len := 1) rfl (Or.inr rfl) rfl ⟨rfl, m1 + 1, by omega, u, l', ⟨?_, t1, cCn_P hK t3 i2.2.2.1, gR_P hK t3 i2.2.2.2⟩, t2, ?_⟩
      · rw [t3.1 184 (by decide)]
        exact nF2_trans i2.1 (nF2_P hK t3)
      · rw [t4, i5]
        have e1 : τ 238 = υ 238 := (gI_cell i2 (by decide) (by decide) (by decide)).trans (hv.1 _ (by decide) (by decide) (by decide) (by decide) (by decide)).symm
        have e2 : mA τ = mA υ := by
          funext t
          unfold mA
          rw [gI_cell i2 (c := 233) (by decide) (by decide) (by decide), hv.1 233 (by decide) (by decide) (by decide) (by decide) (by decide)]
        rw [e1, e2]
        rfl
    · have q := qgeF q i ds.length
      obtain ⟨s, hs⟩ : ∃ s, ds[i]'q = s := ⟨_, rfl⟩
      have hsS : s < S := hs ▸ hD.2.2.1 _ (List.getElem_mem q)
      have hs4 : s < 4 := by omega
      obtain ⟨c0, hc0⟩ : ∃ c0, (ds.take i).count s = c0 := ⟨_, rfl⟩
      have hcn : c0 + 1 ≤ ds.count s := by
        have := count_take_le ds s (i + 1)
        rw [cnt_take q hs, if_pos rfl, hc0] at this
        exact this
      obtain ⟨r, r1, r2, r3, r4, -, r6, -⟩ := hD.2.2.2 s hsS
      obtain ⟨-, ev, ev1, ev2⟩ := hRo.2.2.1 r r1
      have hfe : fN (υ 247 r) = ev := by rw [ev2]; exact fN_nI (by omega)
      rw [hfe] at r4
      have hR1 := aR' r r1
      have hr4 : r < 4 := by omega
      have hE := hR1.2.2.2.2 c0 (by rw [hfe]; omega)
      obtain ⟨t, t1, t2, -⟩ := hRo.2.2.2.2.2 r c0 r1 (by rw [hfe]; omega)
      have hft : fN (υ 248 (6 * r + c0)) = t := by rw [t2]; exact fN_nI (by omega)
      have hfr : fN (υ 255 s) = r := by rw [r2]; exact fN_nI (by omega)
      have hcRo2 : cRo τ n R := cRo_gr (Nat.le_refl _) (fun e e1 e2 => gI_cell i2 (by omega) (by omega) (by omega)) hcRo
      have hmv : τ 183 i = nI s := by
        rw [gI_cell i2 (c := 183) (by decide) (by decide) (by decide), um i (by rw [hfd]; exact q), hD.2.1 i q, hs]
      have htr : trSn υ ds (trKn υ kl) (i + 1) = cit (υ 249 (6 * r + c0) ≠ 0) (trA (trSn υ ds (trKn υ kl) i) (tin υ s t) (nI 1) (-6)) (trSn υ ds (trKn υ kl) i) := by
        rw [trSn_1 q hs hc0]
        unfold mEv
        rw [hfr, hft]
      have htn : ∀ z, z < 4 → upd (τ 184) s (nI (c0 + 1)) z = nI ((ds.take (i + 1)).count z) := fun z hz => by
        rw [cnt_take q hs]
        by_cases e : z = s
        · subst e
          rw [pk_us, if_pos rfl, hc0]
        · rw [pk_un e, if_neg e]
          exact i6 z hz
      have k101 : ∀ τ' u' l', gI σ τ' n u' (m1 + 1) l' → u' ≤ 24 * (i + 1) → τ' 186 13 = 0 → kTr τ' l' = trSn υ ds (trKn υ kl) (i + 1) → τ' 184 = upd (τ 184) s (nI (c0 + 1)) → ∀ lv, nk lv = true → ([(1, .int (nI i)), (0, .ref 181)] : jL).map (fun q => jl lv q.1) = ([(1, Value.int (nI i)), (0, .ref 181)] : jL).map (fun q => some q.2) → kX kT L xs (d + 54) 68 101 lv [] τ' (fun r σ' => r = none ∧ ∃ m', m' ≤ m + 1 ∧ gaP σ σ' n m' (trRun υ kl ds)) := by
        intro τ' u' l' x1 x2 x3 x4 x5 lv hk hlv
        refine kX_lv _ hk rfl hlv ?_
        iterate 2 (refine kX_one rfl ?_)
        have := ih (i + 1, τ', u', l') ⟨q, x1, x2, x3, x4, fun z hz => by simp only; rw [x5]; exact htn z hz⟩ (by simp only; omega)
        dsimp only at this
        rw [← nI_1] at this
        exact kX_lv _ rfl rfl rfl this
      iterate 3 (refine kX_one rfl ?_)
      refine kX_ialdV rfl rfl (by decide) (i) (by first | rfl | decide) (by omega) (hmv) ?_
      iterate 6 (refine kX_one rfl ?_)
      refine kX_ialdV rfl rfl (by decide) (s) (by first | rfl | decide) (hs4) ((i6 s hs4).trans (congrArg nI hc0)) ?_
      refine kX_cal (mf_eventOf L xs (d + 52) τ n R S s r ev (nI c0) hcRo2 hS4 r1 (by rw [gI_cell i2 (c := 15) (by decide) (by decide) (by decide)]; rw [← hlo 15 (by decide)]; exact (aS' s hsS).1.trans r2) (by rw [gI_cell i2 (c := 23 + 35 * r) (by omega) (by omega) (by omega)]; rw [← hlo (23 + 35 * r) (by omega)]; exact hR1.2.1.trans ev2) hsS ev1) rfl (Or.inr rfl) rfl rfl rfl (fun r1' σ1 q1 => ?_)
      obtain ⟨hq, rfl⟩ := q1
      rcases hq with ⟨-, hno⟩ | ⟨k, k1, k2, rfl, -⟩
      · exact absurd rfl (hno c0 (by omega))
      obtain rfl : k = c0 := (nI_inj k2 (by omega) (by omega)).symm
      have hk6 : k < 6 := by omega
      have hgc : ∀ j, τ (28 + 35 * r + 5 * k) j = σ (28 + 35 * r + 5 * k) j := fun j => by rw [gI_cell i2 (c := 28 + 35 * r + 5 * k) (by omega) (by omega) (by omega)]
      iterate 5 (refine kX_one rfl ?_)
      refine kX_ialdV rfl rfl (by decide) (s) (by first | rfl | decide) (hs4) ((i6 s hs4).trans (congrArg nI hc0)) ?_
      iterate 2 (refine kX_one rfl ?_)
      refine kX_top (nI_1 k) ?_
      refine kX_iastN rfl rfl (by decide) (s) (by first | rfl | decide) (hs4) ?_
      have hgI2 := gI_turn (upd (τ 184) s (nI (k + 1))) i2
      have hTr2 : kTr (va_up τ 184 (upd (τ 184) s (nI (k + 1)))) l = trSn υ ds (trKn υ kl) i := i5
      have hw2 : (va_up τ 184 (upd (τ 184) s (nI (k + 1)))) 186 13 = 0 := i4
      have htu2 : (va_up τ 184 (upd (τ 184) s (nI (k + 1)))) 184 = upd (τ 184) s (nI (k + 1)) := up_eq
      have hgc2 : ∀ j, (va_up τ 184 (upd (τ 184) s (nI (k + 1)))) (28 + 35 * r + 5 * k) j = σ (28 + 35 * r + 5 * k) j := fun j => by
        rw [up_ne (by omega)]
        exact hgc j
      generalize va_up τ 184 (upd (τ 184) s (nI (k + 1))) = ω at hgI2 hTr2 hw2 htu2 hgc2 ⊢
      iterate 3 (refine kX_one rfl ?_)
      refine kX_getN rfl rfl (kT_ev hr4 hk6) rfl ?_
      repeat refine kX_one rfl ?_
      refine kX_if (fun q2 => ?_) (fun q2 => ?_)
      · have q2 : σ (28 + 35 * r + 5 * k) 0 = 0 := (hgc2 _).symm.trans (qeq q2)
        have hz : ¬ υ 249 (6 * r + k) ≠ 0 := fun z => hE.2.1.mpr z (by rw [hlo (28 + 35 * r + 5 * k) (by omega)]; exact q2)
        exact k101 ω u l hgI2 (by omega) hw2 (by rw [htr, cit_F hz]; exact hTr2) htu2 _ rfl rfl
      · have q2 : σ (28 + 35 * r + 5 * k) 0 ≠ 0 := fun z => qeqF q2 ((hgc2 _).trans z)
        have hz : υ 249 (6 * r + k) ≠ 0 := hE.2.1.mp (by rw [hlo (28 + 35 * r + 5 * k) (by omega)]; exact q2)
        iterate 5 (refine kX_one rfl ?_)
        refine kX_getN rfl rfl (kT_ev hr4 hk6) rfl ?_
        refine kX_top (y := nI t) ((hgc2 _).trans (by rw [← hlo (28 + 35 * r + 5 * k) (by omega)]; exact hE.1.trans t2)) ?_
        iterate 7 (refine kX_one rfl ?_)
        refine kX_top (y := nI (7 * s + 1)) (ix7z s) ?_
        iterate 1 (refine kX_one rfl ?_)
        have hst := r6 k (by omega)
        rw [hft] at hst
        obtain ⟨hks, hkw⟩ := kSt_run (σ := υ) (τ := ω) (A := 182) (base := 7 * s + 1) hTv hAv.1 t1 hst (fun p hp => by
          rw [gI_cell hgI2 (c := 182) (by decide) (by decide) (by decide)]
          exact (uv s hsS).2 p hp) ((gI_cell hgI2 (by decide) (by decide) (by decide)).trans (hlo _ (by decide)).symm) ((gI_cell hgI2 (by decide) (by decide) (by decide)).trans (hlo _ (by decide)).symm) (fun z hz => by rw [hlo 2 (by decide), hlo 3 (by decide), hlo 4 (by decide)]; exact gI_num hgI2 hz)
        have hdz : kDp ω t ≤ 23 ∧ kSz ω t ≤ 24 := by
          have := aT_dp hT hA.1 t1
          have e1 : kDp ω t = kDp σ t := tA_congr (fun z hz => ⟨(mTb_num hT z hz).1, (aT_W (st := 200) hT hA.1).1 z (Or.inl hz) |>.2 |> tOk_mono (fun x _ q => by unfold kV at q; omega) (fun _ _ q => q) rfl rfl rfl⟩) (fun z hz => by obtain ⟨a, b, c⟩ := gI_num hgI2 hz; exact ⟨a, b, c, rfl⟩) t t1
          have e2 : kSz ω t = kSz σ t := by
            unfold kSz tsz
            exact tA_congr (fun z hz => ⟨(mTb_num hT z hz).1, (aT_W (st := 200) hT hA.1).1 z (Or.inl hz) |>.2 |> tOk_mono (fun x _ q => by unfold kV at q; omega) (fun _ _ q => q) rfl rfl rfl⟩) (fun z hz => by obtain ⟨a, b, c⟩ := gI_num hgI2 hz; exact ⟨a, b, c, rfl⟩) t t1
          rw [e1, e2]
          exact this
        refine kX_cal (mf_groundOf L xs 186 200 n 182 28 (7 * s + 1) (m1 + 1) l _ (fun _ => 0) rfl (by decide) (by decide) (by omega) 49 d 0 u ω t rfl (by omega) hgI2.2.1 hgI2.2.2.1 hgI2.2.2.2 t1 hks (by omega)) rfl (Or.inr rfl) rfl rfl rfl (fun r1 σ2 q1 => ?_)
        obtain ⟨u1, g1, rfl, a2, a3, a4, a5, a6, a7, a8, a9, a10⟩ := q1
        have hgI3 : gI σ σ2 n u1 (m1 + 1) l := ⟨by rw [iX_oth (c := 184) a9 hK (by decide) (by decide)]; exact nF2_trans hgI2.1 a9.2.1, a7, a8, iX_gR hgI2.2.1 a9 hgI2.2.2.2⟩
        iterate 2 (refine kX_one rfl ?_)
        refine kX_cal (mf_add L xs (d + 51) σ2 186 200 n u1 (m1 + 1) g1 l (Int32.ofInt 1) (Int32.ofInt (-1)) a7 a2 a3 (a9.2.2.2.trans hw2)) rfl (Or.inr rfl) rfl rfl rfl (fun r1 σ3 q1 => ?_)
        obtain ⟨rfl, b2, b3, b4⟩ := q1
        have etu : σ3 184 = ω 184 := (b4.1 184 (by decide)).trans (iX_oth a9 hK (by decide) (by decide))
        have hgI4 : gI σ σ3 n u1 (m1 + 1) (rwA l g1 (Int32.ofInt 1) (Int32.ofInt (-1))) := ⟨by rw [etu]; exact nF2_trans hgI2.1 (nF2_trans a9.2.1 (nF2_P hK b4)), b2, cCn_P hK b4 a8, gR_P hK b4 hgI3.2.2.2⟩
        iterate 1 (refine kX_one rfl ?_)
        refine k101 σ3 u1 _ hgI4 (by omega) b3 ?_ (etu.trans htu2) _ rfl rfl
        rw [htr, cit_T hz, kTr_c (nP_c hK b4), kTr_add a7 a2, a4, hkw, iX_kTr hgI2.2.1 a9, hTr2]
        rfl
  iterate 2 (refine kX_one rfl ?_)
  exact kX_lv _ rfl rfl rfl (loop (0, va_up ρ 184 (fun j => if j < 4 then 0 else ρ 184 j), 0, l0) ⟨Nat.zero_le _, gI_turn _ hgI0, Nat.zero_le _, hw0, (show kTr ρ l0 = trKn υ kl from hTr0.trans (vw_trKn hv)), fun s hs => by simp only; rw [up_eq, if_pos hs]; rfl⟩)
end
section
/-! alike: the RUN's intruder -/
theorem iE_nW {σ : kS} {K st n u m : Nat} {l : rwT} (h : iE σ K st n u m l) (hT : cT σ n) (hG : gR σ n) : nW σ K st n u := by
  have hb := isK_b h.1
  have hV := iE_V h
  obtain ⟨u1, u2, u3, u4, u5, u6⟩ := h.2.2.2.2.1
  have key : ∀ x, kV n st u x → kGd σ x → cKc σ n (nI x) := fun x hx hd => by
    rcases hx with q | q
    · exact Or.inr (Or.inl ⟨x, q, rfl, (hG x q).trans (isB_T hd)⟩)
    · exact Or.inr (Or.inr ⟨x, by omega, by omega, rfl⟩)
  refine ⟨iE_nB h, iE_nR h, ⟨fun s hs => ?_, fun g g1 g2 => ⟨?_, ?_⟩⟩, fun g g1 g2 => ?_, hT⟩
  · rcases u6.1 s hs with q | ⟨g, g1, g2, g3, -⟩
    · exact Or.inl q.1
    · refine Or.inr ⟨g, g3.1.1, g3.1.2, g2, ?_⟩
      have := (cSl_ok (σ 2 g) (σ 3 g) (σ 4 g)).2
      rw [this]
      exact congrArg nI g3.2
  · rcases u6.2 g ⟨g1, g2⟩ with q | ⟨g', q1, q2, q3, -⟩
    · exact Or.inl q.1
    · exact Or.inr ⟨g', q3.1.1, q3.1.2, q2⟩
  · rcases (hV g (Or.inr ⟨g1, g2⟩)).2 with ⟨k, h3, hk, -, -⟩ | ⟨k, x, y, h3, hk, -⟩ | ⟨k, x, h3, hk, -⟩
    · have := (u5 g g1 g2).1
      rw [hk, fN_nI (by omega)] at this
      omega
    · exact ⟨k, by omega, by omega, hk⟩
    · exact ⟨k, by omega, by omega, hk⟩
  · have hgd : tgd (σ 2) (σ 3) (σ 4) g = true := (u5 g g1 g2).2.1
    rcases (hV g (Or.inr ⟨g1, g2⟩)).2 with ⟨k, h3, hk, hf, hs⟩ | ⟨k, x, y, h3, hk, hx, hy, h4, h5, h6, h7⟩ | ⟨k, x, h3, hk, hx, hy, h4, h6⟩
    · exact ⟨Or.inl hf, Or.inl hs⟩
    · rw [tgd_2 hV hk hx hy (by omega) (by omega) h4 h5 h6 h7, Bool.and_eq_true] at hgd
      rw [hx, hy]
      exact ⟨key x h6 hgd.1, key y h7 hgd.2⟩
    · rw [tgd_1 hV hk hx hy (by omega) (by omega) h4 h6] at hgd
      rw [hx, hy]
      exact ⟨key x h6 hgd, Or.inl rfl⟩
/-- the RUN's intruder is ready: his row is tr -/
def inQ (σ τ : kS) (n u m : Nat) (l : rwT) (tr : trT) : Prop := nF2 (va_up (va_up σ 184 (τ 184)) 181 (τ 181)) τ 186 200 ∧ (∀ j, j ≠ 9 → τ 181 j = σ 181 j) ∧ τ 181 9 = nI n ∧ iE τ 186 200 n u m l ∧ cCn τ n ∧ gR τ n ∧ τ 186 13 = 1 ∧ kTr τ l = tr
theorem inQ_cell {σ τ : kS} {n u m : Nat} {l : rwT} {tr : trT} (h : inQ σ τ n u m l tr) {c : Nat} (c1 : 7 ≤ c) (c2 : c ≠ 184) (c4 : c ≠ 181) (c3 : c < 186 ∨ 195 ≤ c) : τ c = σ c := by
  have := h.1.1.1 c c3 (by omega) (by omega) (by omega) (by omega) (by omega)
  rw [up_ne c4, up_ne c2] at this
  exact this
theorem inQ_cT {σ τ : kS} {n u m : Nat} {l : rwT} {tr : trT} (h : inQ σ τ n u m l tr) (hT : cT σ n) : cT τ n :=
  cT_nF (Or.inl ⟨rfl, rfl⟩) h.1.1 (cT_eq (σ := σ) rfl rfl (fun _ _ => ⟨rfl, rfl, rfl, rfl, rfl, rfl⟩) hT)
theorem inQ_cJ {σ τ : kS} {n R S C u m : Nat} {l : rwT} {tr : trT} (h : inQ σ τ n u m l tr) (hJ : cJ σ n R S C) : cJ τ n R S C :=
  cJ_in hJ h.1.1 (iE_nW h.2.2.2.1 (inQ_cT h hJ.1) h.2.2.2.2.2.1) h.2.1 (Or.inr ⟨n, Nat.le_refl _, h.2.2.1⟩)
theorem inQ_ok {σ τ : kS} {n u m : Nat} {l : rwT} {tr : trT} (h : inQ σ τ n u m l tr) : kOk τ 186 200 n tr := by
  obtain ⟨-, -, -, hE, -, -, hw, ht⟩ := h
  exact ⟨u, m, l, hE.2.2.2.2.2.2.1.1, hE.2.2.2.2.2.2.1.2, hE.2.2.2.2.1, hE.2.2.2.2.2.1, hE.2.2.2.2.2.2.2.1, ht, hw, hE.2.2.2.2.2.2.2.2.2⟩
theorem trRun_hi {σ τ : kS} {kl ds : List Nat} (h : ∀ c, 232 ≤ c → τ c = σ c) : trRun τ kl ds = trRun σ kl ds := by
  have e := eqC_of h [233, 234, 235, 238, 241, 265, 249, 248, 255] (by decide)
  have e1 : trKn τ kl = trKn σ kl := by
    unfold trKn
    rw [e 233 (by decide), e 234 (by decide), e 235 (by decide)]
  have e2 : tin τ = tin σ := by
    funext s t
    unfold tin mVl
    rw [e 233 (by decide), e 234 (by decide), e 235 (by decide), e 265 (by decide), e 241 (by decide)]
  have e3 : ∀ k, trSn τ ds (trKn σ kl) k = trSn σ ds (trKn σ kl) k := by
    intro k
    induction k with
    | zero => rfl
    | succ k ih =>
      unfold trSn mEv
      rw [ih, e2, e 249 (by decide), e 248 (by decide), e 255 (by decide)]
  have e4 : mA τ = mA σ := by
    unfold mA
    rw [e 233 (by decide)]
  unfold trRun
  rw [e1, e3, e4, e 238 (by decide)]
/-- both sides are alike with the RUN's intruder ready -/
theorem inQ_J {σ τ : kS} {n b R S C m u m' : Nat} {kl ds : List Nat} {l : rwT} (h : aJ σ n b R S C kl m) (hr0 : σ 232 52 ≠ 0) (hD : mRn σ n R S ds) (hQ : inQ σ τ n u m' l (trRun σ kl ds)) (hm : m' ≤ m + 1) : aJ τ n b R S C kl (m + 1) := by
  have hJ := inQ_cJ hQ h.2.1
  obtain ⟨i, -, t, r, s, c, k, hU, f, m1, m2, m3, x1, x2, x3, y1, y2, y3⟩ := h
  have ee : ∀ c, 7 ≤ c → c ≠ 184 → c ≠ 181 → c < 186 ∨ 195 ≤ c → τ c = σ c := fun c c1 c2 c3 c4 => inQ_cell hQ c1 c2 c3 c4
  have hr : ∀ l : List Nat, l.all (fun c => decide (232 ≤ c)) = true → eqC σ τ l := eqC_of (fun c q => ee c (by omega) (by omega) (by omega) (by omega))
  have hl : ∀ c, 13 ≤ c → c < 181 → τ c = σ c := fun c c0 hc => ee c (by omega) (by omega) (by omega) (by omega)
  have hh : ∀ c, 195 ≤ c → c < 232 → τ c = σ c := fun c c1 c2 => ee c (by omega) (by omega) (by omega) (by omega)
  have h2 : τ 232 = σ 232 := ee 232 (by decide) (by decide) (by decide) (by decide)
  have hlen := mRn_len i.2.1 i.2.2.1.1 hD
  refine ⟨mI_hi (fun c hc => ee c (by omega) (by omega) (by omega) (by omega)) i, hJ, ⟨hQ.2.2.2.1.2.2.2.1, hQ.2.2.2.2.1⟩, aR_c i.1 i.2.1 (fun c c1 c2 => hl c (by omega) (by omega)) (hr _ (by decide)) r, aS_c i.1.1 i.2.1 i.2.2.1 (hl _ (by decide) (by decide)) (hl _ (by decide) (by decide)) (hl _ (by decide) (by decide)) (hr _ (by decide)) s, aC_c i.2.2.2.2.1 (fun c c1 c2 => hl c (by omega) (by omega)) (hr _ (by decide)) c, aK_eq (by rw [hl 13 (by decide) (by decide)]) (hl _ (by decide) (by decide)) k, ?_, aF_c i.1 i.2.1 i.2.2.1 (fun c c1 c2 => hl c (by omega) (by omega)) (hr _ (by decide)) (hh _ (by decide) (by decide)) (hh _ (by decide) (by decide)) (hh _ (by decide) (by decide)) (hh _ (by decide) (by decide)) (by rw [h2]; exact ⟨rfl, rfl, rfl, rfl⟩) (hr _ (by decide)) f, m', m2, m3, hm, by omega, by omega, hQ.2.2.2.1.2.2.2.2.2.1, kMs_eq (fun c c1 c2 => hh c (by omega) (by omega)) y2, kMs_eq (fun c c1 c2 => hh c (by omega) (by omega)) y3⟩
  have htr : trRun τ kl ds = trRun σ kl ds := trRun_hi (fun c hc => ee c (by omega) (by omega) (by omega) (by omega))
  unfold aU at hU ⊢
  rw [hQ.2.1 8 (by decide), hQ.2.1 7 (by decide), h2, ee 17 (by decide) (by decide) (by decide) (by decide), ee 183 (by decide) (by decide) (by decide) (by decide), ee 182 (by decide) (by decide) (by decide) (by decide), hr [274, 264, 265] (by decide) 274 (by decide), hr [274, 264, 265] (by decide) 264 (by decide), hr [274, 264, 265] (by decide) 265 (by decide)]
  refine ⟨hU.1, fun z => ⟨(hU.2 z).1, (hU.2 z).2.1, (hU.2 z).2.2.1, (hU.2 z).2.2.2.1, fun _ => ⟨ds, hD.1, hD.2.1, hlen, hD.2.2.1, ?_⟩⟩⟩
  rw [htr]
  exact inQ_ok hQ
/-- what can be made is marked -/
theorem inQ_mk {σ τ : kS} {n u m : Nat} {l : rwT} {tr : trT} {M : Nat → Int32} (h : inQ σ τ n u m l tr) (hE : iE (va_up τ 192 M) 186 200 n u m l) : inQ σ (va_up τ 192 M) n u m l tr := by
  obtain ⟨h1, h2, h3, h4, h5, h6, h7, h8⟩ := h
  refine ⟨⟨⟨fun c a1 a2 a3 a4 a5 a6 => ?_, h1.1.2⟩, h1.2⟩, h2, h3, hE, h5, h6, h7, h8⟩
  rw [up_ne (by omega)]
  exact h1.1.1 c a1 a2 a3 a4 a5 a6
set_option maxRecDepth 100000 in
set_option maxHeartbeats 4000000 in
theorem mf_intruder (L : Nat) (xs : Nat → Int32) (d : Nat) (σ υ : kS) (n b R S C m : Nat) (kl ds : List Nat) (hv : vw σ υ) (h : aJ υ n b R S C kl m) (hm : m < 2147483646) (hr0 : υ 232 52 ≠ 0) (hD : mRn υ n R S ds) : kXM kT L xs (d + 55) 67 [.ref 181] σ (fun r σ' => r = some (.ref 186) ∧ ∃ u m' l, m' ≤ m + 1 ∧ inQ σ σ' n u m' l (trRun υ kl ds)) := by
  have hK : isK 186 200 := Or.inl ⟨rfl, rfl⟩
  have hlo : ∀ c, c < 232 → υ c = σ c := fun c hc => vw_low hv hc
  have hcT := (cJ_low (fun c hc => (hlo c hc).symm) h.2.1).1
  have hT := vw_Tb hv h.1.1
  have hA : aT σ n := aT_c (fun c c1 c2 => (hlo c (by omega)).symm) (vw_c hv _ (by decide)) h.2.2.1
  have hn := hT.1
  unfold kXM
  iterate 5 (refine kX_one rfl ?_)
  refine kX_top (hcT.2.1) ?_
  repeat refine kX_one rfl ?_
  refine kX_if (fun q => ?_) (fun q => ?_)
  · have q : σ 181 9 = nI n := qeq q
    obtain ⟨-, -, -, -, hg⟩ := h.2.2.2.2.2.2.2.1.2 hr0
    obtain ⟨ds', d1, d2, d3, d4, ok⟩ := hg (by rw [hlo 181 (by decide)]; exact q)
    have ok2 : kOk σ 186 200 n (trRun υ kl ds') := kOk_eq (fun c c1 c2 => (hlo c (by omega)).symm) (fun c c1 c2 => (hlo c (by omega)).symm) (fun t _ => by rw [hv.1 233 (by decide) (by decide) (by decide) (by decide) (by decide)]) (hv.1 _ (by decide) (by decide) (by decide) (by decide) (by decide)).symm ok
    obtain ⟨u, m', l, o1, o2, o3, o4, o5, o6, o7, o8⟩ := ok2
    have hlen := mRn_len h.1.2.1 h.1.2.2.1.1 hD
    have hS4 := h.1.2.2.1.1
    have e : ds' = ds := lst_inj d3 hlen (fun s hs => by have := d4 s hs; omega) (fun s hs => by have := hD.2.2.1 s hs; omega) (d1.symm.trans hD.1) d2 hD.2.1
    subst e
    obtain ⟨m1, m2, m3, x1, -, -, y1, -⟩ := h.2.2.2.2.2.2.2.2.2
    rw [kMs, hlo 186 (by decide)] at y1
    have em : m' = m1 := nI_inj (o4.1.symm.trans y1.1) (by omega) (by omega)
    repeat refine kX_one rfl ?_
    refine kX_ret (i := .areturn) (len := 1) rfl (Or.inr rfl) rfl ⟨rfl, u, m', l, by omega, by rw [kup_self, kup_self]; exact nF2_refl σ 186 200, fun _ _ => rfl, q, ⟨hK, hn, hcT.2.1, hA.1, o3, o4, ⟨o1, o2⟩, o5, fun t ht => (aT_dp hT hA.1 ht).1, o8⟩, hA.2, aT_gR hT hA.1, o7, o6⟩
  · iterate 1 (refine kX_one rfl ?_)
    refine kX_cal (mf_gather L xs d σ υ n b R S C m kl ds hv h hm hr0 hD) rfl (Or.inr rfl) rfl rfl rfl (fun r1 τ q1 => ?_)
    obtain ⟨rfl, m', hm', u, l, hG, hw, htr⟩ := q1
    iterate 4 (refine kX_one rfl ?_)
    refine kX_top (hG.2.1.2.2.1) ?_
    iterate 1 (refine kX_one rfl ?_)
    refine kX_st (va_up τ 181 (upd (τ 181) 9 (nI n))) rfl ?_
    iterate 2 (refine kX_one rfl ?_)
    refine kX_ret (i := .areturn) (len := 1) rfl (Or.inr rfl) rfl ⟨rfl, u, m', l, hm', ⟨⟨fun c a1 a2 a3 a4 a5 a6 => ?_, hG.1.1.2⟩, hG.1.2⟩, fun j hj => ?_, ?_, hG.2.1, hG.2.2.1, hG.2.2.2, hw, htr⟩
    · by_cases e : c = 181
      · subst e
        rfl
      · have := hG.1.1.1 c a1 a2 a3 a4 a5 a6
        rw [up_ne e, up_ne e]
        exact this
    · rw [up_eq, pk_un hj, gI_cell hG (c := 181) (by decide) (by decide) (by decide)]
    · rw [up_eq, pk_us]
end
section
/-! alike: makes -/
/-- a row of trees makes g -/
def trM (σ : kS) (tr : trT) (g : Jvm.Term) : Prop := vmk (trI tr) (mA σ) (σ 238) g
theorem mMk_tr {σ τ : kS} {n b t : Nat} {l : rwT} (h : mTb σ n b) (hF : mFr σ τ n) (ht : t < n) : mMk τ l t ↔ (tgd (σ 233) (σ 234) (σ 235) t = true ∧ trM σ (rwM τ l) (tvl (σ 233) (σ 234) (σ 235) t)) := by
  unfold mMk trM
  obtain ⟨e1, e2, -⟩ := mFr_all h hF ht
  rw [e1, e2, rwM_I, mFr_A hF, hF.1 238 (by decide)]
theorem kMk_tr {σ τ : kS} {n b u m t : Nat} {l : rwT} {tr : trT} (hT : mTb σ n b) (hQ : inQ σ τ n u m l tr) (ht : t < n) : kMk τ l t ↔ trM σ tr (tvl (σ 233) (σ 234) (σ 235) t) := by
  unfold kMk trM
  have e : ∀ c, 232 ≤ c → τ c = σ c := fun c hc => inQ_cell hQ (by omega) (by omega) (by omega) (by omega)
  have hT2 : mTb τ n b := by
    unfold mTb mAG mpt at hT ⊢
    simp only [e 232 (by decide), e 233 (by decide), e 234 (by decide), e 235 (by decide), e 236 (by decide), e 237 (by decide), e 240 (by decide), e 242 (by decide), e 243 (by decide)]
    exact hT
  have e2 : mA τ = mA σ := by
    unfold mA
    rw [e 233 (by decide)]
  rw [aT_tv hT2 hQ.2.2.2.1.2.2.2.1 ht, e2, ← kTr_I, hQ.2.2.2.2.2.2.2, e 233 (by decide), e 234 (by decide), e 235 (by decide), e 238 (by decide)]
set_option maxRecDepth 100000 in
set_option maxHeartbeats 4000000 in
theorem mg_makes (L : Nat) (xs : Nat → Int32) (d : Nat) (σ : kS) (n b R S C : Nat) (kl : List Nat) (x : Int32) (Q : Option Value → kS → Prop) (h : mI σ n b R S C kl) (hN : ¬ isN x n → Q (some (.int (-1))) σ) (hS : isN x n → σ 232 52 = 0 → Q (some (.int (-3))) σ) (hG : ∀ t, t < n → x = nI t → σ 232 52 = 1 → tgd (σ 233) (σ 234) (σ 235) t = false → Q (some (.int (-5))) σ)
    (hM : ∀ t ds b' σ', t < n → x = nI t → σ 232 52 = 1 → tgd (σ 233) (σ 234) (σ 235) t = true → mRn σ n R S ds → mFr σ σ' n → mI σ' n b' R S C kl → Q (some (.int (isB (trM σ (trRun σ kl ds) (tvl (σ 233) (σ 234) (σ 235) t))))) σ') : kXM kT L xs (d + 8) 198 [.ref 232, .int x] σ Q := by
  have h0 := h
  obtain ⟨h1, h2, h3, h4, h5, h6, h7⟩ := h
  have hn := h1.1
  unfold kXM
  repeat refine kX_one rfl ?_
  refine kX_cal (mr_isTerm L xs (d + 6) σ n x h1.2.2.2.1 (by omega)) rfl (Or.inr rfl) rfl rfl rfl (fun r1 σ1 q1 => ?_)
  obtain ⟨rfl, rfl⟩ := q1
  repeat refine kX_one rfl ?_
  refine kX_if (fun q => ?_) (fun q => ?_)
  · obtain ⟨t, ht, rfl⟩ := isB_ne.mp (qne q)
    rcases h6 with h6 | ⟨h6, ds, g1, g2, g3⟩
    · iterate 2 (refine kX_one rfl ?_)
      refine kX_top (h6) ?_
      repeat refine kX_one rfl ?_
      refine kX_ret (i := .ireturn) (len := 1) rfl (Or.inr rfl) rfl (hS ⟨t, ht, rfl⟩ h6)
    · iterate 2 (refine kX_one rfl ?_)
      refine kX_top (h6) ?_
      repeat refine kX_one rfl ?_
      refine kX_baldV rfl rfl (by decide) (t) (by first | rfl | decide) (by omega) (h1.2.2.2.2.2.2.1 t (Or.inl ht)) ?_
      repeat refine kX_one rfl ?_
      refine kX_if (fun q2 => ?_) (fun q2 => ?_)
      · have q2 : tgd (σ 233) (σ 234) (σ 235) t = true := (bI_ne _).mp (qne q2)
        repeat refine kX_one rfl ?_
        refine kX_cal (mr_row L xs d σ n b R S C kl ds h0 h6 g1 g2 g3) rfl (Or.inr rfl) rfl rfl rfl (fun r1 σ1 q1 => ?_)
        obtain ⟨rfl, f1, f2, b', l, f3, f4, f5, f6, f7⟩ := q1
        repeat refine kX_one rfl ?_
        refine kX_cal (mr_canMake L xs (d + 3) σ1 n b' l t f4 f5 f6 (Or.inl ht)) rfl (Or.inr rfl) rfl rfl rfl (fun r1 σ2 q1 => ?_)
        obtain ⟨rfl, M, rfl, f8⟩ := q1
        have hF2 : mFr σ (cmS σ1 M (upd (upd (σ1 232) 49 (nI b')) 50 (nI l.length))) n := mFr_trans f1 (mFr_rwF rwF_cmS)
        have fin := (mI_there h0 h6 g1 g2 hF2 f2 f3 f4 f5 f8 f7).1
        have key := hM t ds b' _ ht rfl h6 q2 g1 hF2 fin
        have hk := mMk_tr (l := l) h1 f1 ht
        rw [f7] at hk
        repeat refine kX_one rfl ?_
        refine kX_if (fun q3 => ?_) (fun q3 => ?_)
        · have q3 : ¬ mMk σ1 l t := fun z => isB_ne.mpr z (qeq q3)
          rw [isB_F (fun z => q3 (hk.mpr ⟨q2, z⟩))] at key
          repeat refine kX_one rfl ?_
          refine kX_ret (i := .ireturn) (len := 1) rfl (Or.inr rfl) rfl (key)
        · have q3 : mMk σ1 l t := isB_ne.mp (qeqF q3)
          rw [isB_T (hk.mp q3).2] at key
          repeat refine kX_one rfl ?_
          refine kX_ret (i := .ireturn) (len := 1) rfl (Or.inr rfl) rfl (key)
      · have q2 : tgd (σ 233) (σ 234) (σ 235) t = false := (bI_eq _).mp (qneF q2)
        repeat refine kX_one rfl ?_
        refine kX_ret (i := .ireturn) (len := 1) rfl (Or.inr rfl) rfl (hG t ht rfl h6 q2)
  · have q : ¬ isN x n := fun z => isB_ne.mpr z (qneF q)
    repeat refine kX_one rfl ?_
    refine kX_ret (i := .ireturn) (len := 1) rfl (Or.inr rfl) rfl (hN q)
/-- a RUN runs: its EVENTS -/
theorem mI_ds {σ : kS} {n b R S C : Nat} {kl : List Nat} (h : mI σ n b R S C kl) (hr : σ 232 52 ≠ 0) : σ 232 52 = 1 ∧ ∃ ds, mRn σ n R S ds ∧ mBi σ ds ∧ mRt σ n b kl ds := by
  rcases h.2.2.2.2.2.1 with h6 | h6
  · exact absurd h6 hr
  · exact h6
theorem mRn_u {σ : kS} {n R S : Nat} {ds ds' : List Nat} (hR : mRo σ n R) (hS4 : S ≤ 4) (h : mRn σ n R S ds) (h' : mRn σ n R S ds') : ds = ds' :=
  lst_inj (mRn_len hR hS4 h) (mRn_len hR hS4 h') (fun s hs => by have := h.2.2.1 s hs; omega) (fun s hs => by have := h'.2.2.1 s hs; omega) (h.1.symm.trans h'.1) h.2.1 h'.2.1
theorem mRn_hi {σ τ : kS} {n R S : Nat} {ds : List Nat} (e : ∀ c, 232 ≤ c → τ c = σ c) (h : mRn σ n R S ds) : mRn τ n R S ds := by
  unfold mRn mSn mVk mSt at h ⊢
  simp only [e 232 (by decide), e 274 (by decide), e 255 (by decide), e 264 (by decide), e 247 (by decide), e 265 (by decide), e 244 (by decide), e 246 (by decide), e 233 (by decide), e 234 (by decide), e 235 (by decide), e 240 (by decide), e 245 (by decide), e 248 (by decide), e 241 (by decide), e 249 (by decide)]
  exact h
set_option maxRecDepth 100000 in
set_option maxHeartbeats 4000000 in
theorem bo_makes (L : Nat) (xs : Nat → Int32) (d d' m : Nat) (σ : kS) (x : Int32) (hm : m < 2147483646) (h : bJ m σ) : kXM kT L xs (d + 56) 126 [.ref 0, .int x] σ (fun r τ => ∃ z, r = some (.int z) ∧ kXM kT L xs (d' + 8) 198 [.ref 232, .int x] τ (fun r' ω => r' = some (.int z) ∧ bJ (m + 1) ω)) := by
  have hb := bJ_up (Nat.le_succ m) h
  obtain ⟨n, b, R, S, C, kl, h⟩ := h
  have hcT := h.2.1.1
  have hT := h.1.1
  have hn := hcT.1
  have hU := h.2.2.2.2.2.2.2.1
  have hgr := aT_gR hT h.2.2.1.1
  unfold kXM
  iterate 3 (refine kX_one rfl ?_)
  refine kX_cal (mc_has L xs (d + 54) σ n x hn hcT.2.1) rfl (Or.inr rfl) rfl rfl rfl (fun r1 σ1 q1 => ?_)
  obtain ⟨rfl, rfl⟩ := q1
  repeat refine kX_one rfl ?_
  refine kX_if (fun q => ?_) (fun q => ?_)
  · have q := isB_ne.mp (qne q)
    obtain ⟨t, ht, rfl⟩ := q
    repeat refine kX_one rfl ?_
    refine kX_if (fun q2 => ?_) (fun q2 => ?_)
    · have hon : σ 181 8 ≠ 0 := qne q2
      have hr0 : σ 232 52 ≠ 0 := hU.1.mp hon
      obtain ⟨hr1, ds, hD, -⟩ := mI_ds h.1 hr0
      iterate 4 (refine kX_one rfl ?_)
      refine kX_baldV rfl rfl (by decide) (t) (by first | rfl | decide) (by omega) (hgr t ht) ?_
      repeat refine kX_one rfl ?_
      refine kX_if (fun q3 => ?_) (fun q3 => ?_)
      · have q3 : ¬ kGd σ t := fun z => isB_ne.mpr z (qeq q3)
        have hgf : tgd (σ 233) (σ 234) (σ 235) t = false := by
          unfold kGd at q3
          rw [aT_gd hT h.2.2.1.1 ht] at q3
          exact Bool.eq_false_iff.mpr q3
        repeat refine kX_one rfl ?_
        refine kX_ret (i := .ireturn) (len := 1) rfl (Or.inr rfl) rfl (⟨_, rfl, ?_⟩)
        refine mg_makes L xs d' σ n b R S C kl _ _ h.1 (fun z => absurd ⟨t, ht, rfl⟩ z) (fun _ z => absurd z hr0) (fun _ _ _ _ _ => ⟨rfl, hb⟩) (fun t' _ _ _ ht' et _ z _ _ _ => ?_)
        obtain rfl : t = t' := nI_inj et
        rw [hgf] at z
        exact absurd z (by decide)
      · have q3 : kGd σ t := isB_ne.mp (qeqF q3)
        have hgt : tgd (σ 233) (σ 234) (σ 235) t = true := by
          rw [← aT_gd hT h.2.2.1.1 ht]
          exact q3
        iterate 2 (refine kX_one rfl ?_)
        refine kX_cal (mf_intruder L xs d σ σ n b R S C m kl ds (vw_refl σ) h hm hr0 hD) rfl (Or.inr rfl) rfl rfl rfl (fun r1 τ q1 => ?_)
        obtain ⟨rfl, u, m', l, hm', hQ⟩ := q1
        have hE := hQ.2.2.2.1
        have hct : ∀ z, z < n → τ 2 z = σ 2 z ∧ τ 3 z = σ 3 z ∧ τ 4 z = σ 4 z := fun z hz => by
          obtain ⟨a, b, c, -⟩ := hQ.1.1.2 z (by omega)
          exact ⟨a, b, c⟩
        have hgd : kGd τ t := by
          have := aT_gR hT h.2.2.1.1 t ht
          have h2 := hQ.2.2.2.2.2.1 t ht
          rw [inQ_cell hQ (c := 8) (by decide) (by decide) (by decide) (by decide), this] at h2
          rw [isB_T q3] at h2
          exact isB_1.mp h2.symm
        iterate 2 (refine kX_one rfl ?_)
        refine kX_cal (mf_canMake L xs 186 200 n u m' l 49 (d + 4) 0 τ t rfl (by have := hE.2.2.2.2.2.2.2.2.1 t ht; omega) hE (Or.inl ht) hgd) rfl (Or.inr rfl) rfl rfl rfl (fun r1 ω q1 => ?_)
        obtain ⟨rfl, M, rfl, hE2⟩ := q1
        have hQ2 := inQ_mk hQ hE2
        have hJ2 := inQ_J h hr0 hD hQ2 hm'
        have e : ∀ c, 232 ≤ c → va_up τ 192 M c = σ c := fun c hc => inQ_cell hQ2 (by omega) (by omega) (by omega) (by omega)
        have hkk := kMk_tr hT hQ ht
        have fin : kXM kT L xs (d' + 8) 198 [.ref 232, .int (nI t)] (va_up τ 192 M) (fun r' ω => r' = some (.int (isB (isB (kMk τ l t) ≠ 0))) ∧ bJ (m + 1) ω) := by
          refine mg_makes L xs d' _ n b R S C kl _ _ hJ2.1 (fun z => absurd ⟨t, ht, rfl⟩ z) (fun _ z => absurd ((congrFun (e 232 (by decide)) _).symm.trans z) hr0) (fun t' ht' et _ z => ?_) (fun t' ds' b' ω ht' et _ z hD' hF hI => ?_)
          · obtain rfl : t = t' := nI_inj et
            rw [e 233 (by decide), e 234 (by decide), e 235 (by decide), hgt] at z
            exact absurd z (by decide)
          · obtain rfl : t = t' := nI_inj et
            obtain rfl : ds = ds' := mRn_u hJ2.1.2.1 hJ2.1.2.2.1.1 (mRn_hi e hD) hD'
            refine ⟨?_, bJ_fr hJ2 (mLow_fr hF) hF hI⟩
            rw [isB_iff (isB_ne.trans hkk)]
            have e1 : trRun (va_up τ 192 M) kl ds = trRun σ kl ds := trRun_hi e
            unfold trM mA
            rw [e1, e 233 (by decide), e 234 (by decide), e 235 (by decide), e 238 (by decide)]
        refine kX_cal (mc_asNumber L xs (d + 54) (va_up τ 192 M) _) rfl (Or.inr rfl) rfl rfl rfl (fun r1 σ1 q1 => ?_)
        obtain ⟨rfl, rfl⟩ := q1
        repeat refine kX_one rfl ?_
        refine kX_ret (i := .ireturn) (len := 1) rfl (Or.inr rfl) rfl (⟨_, rfl, fin⟩)
    · have q2 : σ 181 8 = 0 := qneF q2
      have hr0 : σ 232 52 = 0 := Classical.byContradiction fun z => hU.1.mpr z q2
      repeat refine kX_one rfl ?_
      refine kX_ret (i := .ireturn) (len := 1) rfl (Or.inr rfl) rfl (⟨_, rfl, ?_⟩)
      exact mg_makes L xs d' σ n b R S C kl _ _ h.1 (fun z => absurd ⟨t, ht, rfl⟩ z) (fun _ _ => ⟨rfl, hb⟩) (fun _ _ _ z _ => absurd (z.symm.trans hr0) (by decide)) (fun _ _ _ _ _ _ z _ _ _ _ => absurd (z.symm.trans hr0) (by decide))
  · have q : ¬ isN x n := fun z => isB_ne.mpr z (qneF q)
    repeat refine kX_one rfl ?_
    refine kX_ret (i := .ireturn) (len := 1) rfl (Or.inr rfl) rfl (⟨_, rfl, ?_⟩)
    exact mg_makes L xs d' σ n b R S C kl _ _ h.1 (fun _ => ⟨rfl, hb⟩) (fun z => absurd z q) (fun t ht et _ _ => absurd ⟨t, ht, et⟩ q) (fun t _ _ _ ht et _ _ _ _ _ => absurd ⟨t, ht, et⟩ q)
end
section
/-! alike: send -/
set_option maxRecDepth 100000 in
set_option maxHeartbeats 4000000 in
theorem mf_due (L : Nat) (xs : Nat → Int32) (d : Nat) (σ : kS) (n R S A M base s r ev : Nat) (g0 : Nat → Int32) (hRo : cRo σ n R) (hS4 : S ≤ 4) (hr : r < R) (hr2 : σ 15 s = nI r) (hev : σ (23 + 35 * r) 5 = nI ev) (hs : s < S) (hev6 : ev ≤ 6) (hA : kT[A]? = some (.inl (0, M, .inl g0))) (hM : M ≤ 100000) (hbm : base + 28 ≤ M) : kXM kT L xs (d + 2) 18 [.ref 13, .ref A, .int (nI base), .int (nI s)] σ (fun q σ' => ((q = some .null ∧ ∀ k, k < ev → σ A (base + 7 * s) ≠ nI k) ∨ ∃ k, k < ev ∧ σ A (base + 7 * s) = nI k ∧ q = some (.ref (28 + 35 * r + 5 * k)) ∧ cE σ n (28 + 35 * r + 5 * k)) ∧ σ = σ') := by
  have hR4 := hRo.1
  obtain ⟨v, e, v1, e1, v2, e2, so1, ev1⟩ := hRo.2.2 r hr
  obtain rfl : ev = e := nI_inj (hev.symm.trans e2)
  have hr4 : r < 4 := by omega
  unfold kXM
  iterate 5 (refine kX_one rfl ?_)
  refine kX_ialdV rfl rfl (by decide) (s) (by first | rfl | decide) (by omega) (hr2) ?_
  refine kX_aaldN rfl (rfl) (by decide) (by decide) (by decide) (r) (by first | rfl | decide) (hr4) (ro_at hr4) ?_
  iterate 5 (refine kX_one rfl ?_)
  refine kX_cal (mc_doneBy L xs d σ A M base s g0 hA hM (by omega)) rfl (Or.inr rfl) rfl rfl rfl (fun r1 σ1 q1 => ?_)
  obtain ⟨rfl, rfl⟩ := q1
  generalize σ A (base + 7 * s) = x
  have k48 : (∀ k, k < ev → x ≠ nI k) → kX kT L xs (d + 2) 18 48 [(5, .int x), (4, .ref (23 + 35 * r)), (0, .ref 13), (1, .ref A), (2, .int (nI base)), (3, .int (nI s))] [] σ (fun q σ' => ((q = some .null ∧ ∀ k, k < ev → x ≠ nI k) ∨ ∃ k, k < ev ∧ x = nI k ∧ q = some (.ref (28 + 35 * r + 5 * k)) ∧ cE σ n (28 + 35 * r + 5 * k)) ∧ σ = σ') := by
    intro hno
    iterate 1 (refine kX_one rfl ?_)
    refine kX_ret (i := .areturn) (len := 1) rfl (Or.inr rfl) rfl ⟨Or.inl ⟨rfl, hno⟩, rfl⟩
  iterate 2 (refine kX_one rfl ?_)
  repeat refine kX_one rfl ?_
  refine kX_if (fun q => ?_) (fun q => ?_)
  · have q : x < 0 := of_decide_eq_true q
    exact kX_lv _ rfl rfl rfl (k48 (fun k hk z => by rw [z] at q; exact nI_pos (by omega) q))
  · have q : ¬ x < 0 := of_decide_eq_false q
    obtain ⟨k, hk, rfl⟩ := nI_of q
    iterate 2 (refine kX_one rfl ?_)
    refine kX_getN rfl rfl (kT_ro hr4) rfl ?_
    refine kX_top (e2) ?_
    repeat refine kX_one rfl ?_
    refine kX_if (fun q2 => ?_) (fun q2 => ?_)
    · have q2 := qge q2 k ev
      exact kX_lv _ rfl rfl rfl (k48 (fun k' hk' z => by have := nI_inj z; omega))
    · have q2 := qgeF q2 k ev
      have hk6 : k < 6 := by omega
      iterate 1 (refine kX_one rfl ?_)
      refine kX_getN rfl rfl (kT_ro hr4) rfl ?_
      iterate 1 (refine kX_one rfl ?_)
      refine kX_aaldN rfl (kT_re hr4) (by decide) (by decide) (by decide) (k) (by first | rfl | decide) (hk6) (ev_at hk6) ?_
      iterate 1 (refine kX_one rfl ?_)
      refine kX_ret (i := .areturn) (len := 1) rfl (Or.inr rfl) rfl ⟨Or.inr ⟨k, q2, rfl, rfl, ev1 k q2⟩, rfl⟩
/-- a step of the class's RUN -/
def spS (σ : kS) (s c : Nat) : kS := va_up (va_up (va_up σ 183 (upd (σ 183) c (nI s))) 182 (upd (σ 182) (7 * s) (σ 182 (7 * s) + Int32.ofInt 1))) 181 (upd (upd (σ 181) 7 (nI (c + 1))) 9 (-1))
set_option maxRecDepth 100000 in
set_option maxHeartbeats 4000000 in
theorem mf_step (L : Nat) (xs : Nat → Int32) (d : Nat) (σ : kS) (n R S C s c : Nat) (h : cJ σ n R S C) (hon : σ 181 8 ≠ 0) (hs : s < S) (hc : c < 24) (hcc : σ 181 7 = nI c) : kXM kT L xs (d + 1) 70 [.ref 181, .int (nI s)] σ (fun r σ' => r = none ∧ σ' = spS σ s c ∧ cJ σ' n R S C) := by
  have hS4 := h.2.2.1.1
  have hRu := h.2.2.2.2.2.2.2.2.1
  rcases hRu with hRu | ⟨on1, ⟨c', c1, c2, c3⟩, hV, hg⟩
  · exact absurd hRu hon
  · obtain rfl : c = c' := nI_inj (hcc.symm.trans c2)
    unfold kXM
    iterate 2 (refine kX_one rfl ?_)
    refine kX_top (c2) ?_
    iterate 1 (refine kX_one rfl ?_)
    repeat refine kX_one rfl ?_
    refine kX_if (fun q => ?_) (fun q => ?_)
    · have q := qge q c 24
      omega
    · iterate 4 (refine kX_one rfl ?_)
      refine kX_top (c2) ?_
      iterate 1 (refine kX_one rfl ?_)
      refine kX_iastN rfl rfl (by decide) (c) (by first | rfl | decide) (by omega) ?_
      iterate 3 (refine kX_one rfl ?_)
      refine kX_top (c2) ?_
      iterate 5 (refine kX_one rfl ?_)
      iterate 3 (refine kX_one rfl ?_)
      refine kX_top (y := nI (7 * s)) (ix7s s) ?_
      iterate 1 (refine kX_one rfl ?_)
      refine kX_ialdN rfl rfl (by decide) (7 * s) (by first | rfl | decide) (by omega) ?_
      iterate 2 (refine kX_one rfl ?_)
      refine kX_iastN rfl rfl (by decide) (7 * s) (by first | rfl | decide) (by omega) ?_
      iterate 3 (refine kX_one rfl ?_)
      refine kX_st (va_up (va_up (va_up σ 183 (upd (σ 183) c (nI s))) 182 (upd (σ 182) (7 * s) (σ 182 (7 * s) + Int32.ofInt 1))) 181 (upd (upd (σ 181) 7 (nI (c + 1))) 9 (-1))) ?_ ?_
      · rw [← nI_1]
        funext c; first
          | ((repeat (refine va_case ?_ ?_; (· (intro h; first | (subst h; rfl) | (unfold va_up; repeat' split; (all_goals first | rfl | omega | (subst_vars; rfl) | (funext j; unfold upd; repeat' split; all_goals first | rfl | omega | (subst_vars; rfl)))))); intro h)); (repeat (refine va_case2 ?_ ?_; (· (intro h; first | exact absurd h (by assumption) | (subst h; rfl) | (subst h; funext j; unfold upd; repeat' split; (all_goals first | rfl | omega | (subst_vars; rfl))))); intro h)); rfl)
          | (unfold va_up; repeat' split
             all_goals first | rfl | omega | (subst_vars; rfl) | (funext j; unfold upd; repeat' split; all_goals first | rfl | omega | (subst_vars; rfl)))
      have e : ∀ e, e < 181 ∨ 186 ≤ e → va_up (va_up (va_up σ 183 (upd (σ 183) c (nI s))) 182 (upd (σ 182) (7 * s) (σ 182 (7 * s) + Int32.ofInt 1))) 181 (upd (upd (σ 181) 7 (nI (c + 1))) 9 (-1)) e = σ e := fun e he => by
        rw [up_ne (by omega), up_ne (by omega), up_ne (by omega)]
      refine kX_ret (i := .return_) (len := 1) rfl (Or.inr rfl) rfl ⟨rfl, rfl, cJ_run h e (Or.inr ⟨on1, ⟨c + 1, by omega, rfl, fun i hi => ?_⟩, fun s' k hs' hk => ?_, Or.inl rfl⟩)⟩
      · show ∃ s', s' < S ∧ upd (σ 183) c (nI s) i = nI s'
        by_cases e : i = c
        · subst e
          exact ⟨s, hs, pk_us⟩
        · rw [pk_un e]
          exact c3 i (by omega)
      · show upd (σ 182) (7 * s) _ (0 + 7 * s' + 1 + k) = -1 ∨ ∃ z, z < n ∧ upd (σ 182) (7 * s) _ (0 + 7 * s' + 1 + k) = nI z ∧ σ 8 z = 1
        rw [pk_un (by omega)]
        exact hV s' k hs' hk
/-- both RUNS have changed, nothing else -/
theorem aJ_run {σ ω : kS} {n b b' R S C m : Nat} {kl : List Nat} (h : aJ σ n b R S C kl m) (hI : mI ω n b' R S C kl) (hJ : cJ ω n R S C) (e : ∀ c, c < 232 → c ≠ 181 → c ≠ 182 → c ≠ 183 → ω c = σ c) (er : ∀ c, 232 < c → c ≠ 264 → c ≠ 265 → c ≠ 274 → c ≠ 275 → ω c = σ c) (eo : ∀ j, j ≠ 52 → j ≠ 55 → j ≠ 47 → ω 232 j = σ 232 j) (hU : aU ω n S kl) : aJ ω n b' R S C kl m := by
  obtain ⟨i, -, t, r, s, c, k, -, f, mm⟩ := h
  have hr : ∀ l : List Nat, l.all (fun c => decide (232 < c ∧ c ≠ 264 ∧ c ≠ 265 ∧ c ≠ 274 ∧ c ≠ 275)) = true → eqC σ ω l := eqC_of (fun c q => er c q.1 q.2.1 q.2.2.1 q.2.2.2.1 q.2.2.2.2)
  have hl : ∀ c, c < 181 → ω c = σ c := fun c hc => e c (by omega) (by omega) (by omega) (by omega)
  have hh : ∀ c, 186 ≤ c → c < 232 → ω c = σ c := fun c c1 c2 => e c (by omega) (by omega) (by omega) (by omega)
  exact ⟨hI, hJ, aT_c (fun c c1 c2 => hl c (by omega)) (hr _ (by decide)) t, aR_c i.1 i.2.1 (fun c c1 c2 => hl c (by omega)) (hr _ (by decide)) r, aS_c i.1.1 i.2.1 i.2.2.1 (hl _ (by decide)) (hl _ (by decide)) (hl _ (by decide)) (hr _ (by decide)) s, aC_c i.2.2.2.2.1 (fun c c1 c2 => hl c (by omega)) (hr _ (by decide)) c, aK_eq (by rw [hl 13 (by decide)]) (hl _ (by decide)) k, hU, aF_c i.1 i.2.1 i.2.2.1 (fun c c1 c2 => hl c (by omega)) (hr _ (by decide)) (hh _ (by decide) (by decide)) (hh _ (by decide) (by decide)) (hh _ (by decide) (by decide)) (hh _ (by decide) (by decide)) ⟨eo _ (by decide) (by decide) (by decide), eo _ (by decide) (by decide) (by decide), eo _ (by decide) (by decide) (by decide), eo _ (by decide) (by decide) (by decide)⟩ (hr _ (by decide)) f, aM_eq (Nat.le_refl _) (fun c c1 c2 => hh c c1 (by omega)) mm⟩
def tabC : List Nat := [233, 234, 235, 236, 237, 238, 239, 240, 241]
theorem iE_c {σ τ : kS} {K st n u m : Nat} {l : rwT} (e : ∀ c, c < 232 → τ c = σ c) (hc : eqC σ τ tabC) (h : iE σ K st n u m l) : iE τ K st n u m l := by
  have hb := isK_b h.1
  unfold iE aT1 kTb kAG cpt kMs kRw kMk kIn kTv mA kDp kQf at h ⊢
  simp only [e 1 (by decide), e 2 (by decide), e 3 (by decide), e 4 (by decide), e 5 (by decide), e 8 (by decide), e 9 (by decide), e 10 (by decide), e 11 (by decide), e 12 (by decide), e 6 (by decide), hc 233 (by decide), hc 234 (by decide), hc 235 (by decide), hc 236 (by decide), hc 237 (by decide), hc 238 (by decide), hc 239 (by decide), hc 240 (by decide), hc 241 (by decide), e K (by omega), e (K + 1) (by omega), e (K + 2) (by omega), e (K + 3) (by omega), e (K + 4) (by omega), e (K + 5) (by omega), e (K + 6) (by omega), e (K + 7) (by omega)]
  exact h
/-- the RUN's intruder, seen with another RUN of the reference -/
theorem inQ_vw {σ τ υ υ' : kS} {n u m : Nat} {l : rwT} {tr : trT} (h : inQ σ τ n u m l tr) (hv : vw σ υ) (hv' : vw τ υ') (hh : ∀ c, 232 ≤ c → υ' c = υ c) : inQ υ υ' n u m l tr := by
  obtain ⟨h1, h2, h3, h4, h5, h6, h7, h8⟩ := h
  have e : ∀ c, c < 232 → υ' c = τ c := fun c hc => vw_low hv' hc
  have e0 : ∀ c, c < 232 → υ c = σ c := fun c hc => vw_low hv hc
  have hc : eqC τ υ' tabC := fun c hc => ((vw_c hv' tabC (by decide)) c hc).symm
  refine ⟨⟨⟨fun c a1 a2 a3 a4 a5 a6 => ?_, fun j hj => ?_⟩, fun j hj => ?_⟩, fun j hj => ?_, ?_, iE_c e hc h4, ?_, ?_, ?_, ?_⟩
  · by_cases q : 232 ≤ c
    · rw [up_ne (by omega), up_ne (by omega)]
      exact hh c q
    · by_cases q1 : c = 181
      · subst q1
        rfl
      · by_cases q2 : c = 184
        · subst q2
          rw [up_ne q1, up_eq]
        · have := h1.1.1 c a1 a2 a3 a4 a5 a6
          rw [up_ne q1, up_ne q2] at this ⊢
          rw [e c (by omega), e0 c (by omega)]
          exact this
  · have := h1.1.2 j hj
    rw [up_ne (by decide), up_ne (by decide), up_ne (by decide), up_ne (by decide), up_ne (by decide), up_ne (by decide), up_ne (by decide), up_ne (by decide)] at this ⊢
    rw [e 2 (by decide), e 3 (by decide), e 4 (by decide), e 6 (by decide), e0 2 (by decide), e0 3 (by decide), e0 4 (by decide), e0 6 (by decide)]
    exact this
  · have := h1.2 j hj
    rw [up_ne (by decide), up_ne (by decide)] at this ⊢
    rw [e 5 (by decide), e0 5 (by decide)]
    exact this
  · rw [e 181 (by decide), e0 181 (by decide)]
    exact h2 j hj
  · rw [e 181 (by decide)]
    exact h3
  · unfold cCn cpt at h5 ⊢
    rw [e 2 (by decide), e 3 (by decide), e 4 (by decide), e 7 (by decide), e 6 (by decide)]
    exact h5
  · unfold gR kGd at h6 ⊢
    rw [e 2 (by decide), e 3 (by decide), e 4 (by decide), e 8 (by decide)]
    exact h6
  · rw [e 186 (by decide)]
    exact h7
  · unfold kTr kTv at h8 ⊢
    rw [e 2 (by decide), e 3 (by decide), e 4 (by decide)]
    exact h8
end
