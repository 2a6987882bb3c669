/-! alike: giveNumber -/
theorem vnd_inj2 {k k' : Nat} {a b a' b' : Jvm.Term} (hk : k = 4 ∨ k = 5 ∨ k = 6 ∨ k = 8) (hk' : k' = 4 ∨ k' = 5 ∨ k' = 6 ∨ k' = 8) (e : vnd k a (some b) = vnd k' a' (some b')) : k = k' ∧ a = a' ∧ b = b' := by
  rcases hk with rfl | rfl | rfl | rfl <;> rcases hk' with rfl | rfl | rfl | rfl <;> simp [vnd] at e ⊢ <;> exact e
theorem vnd_inj1 {k k' : Nat} {a a' : Jvm.Term} (hk : k = 7 ∨ k = 9) (hk' : k' = 7 ∨ k' = 9) (e : vnd k a none = vnd k' a' none) : k = k' ∧ a = a' := by
  rcases hk with rfl | rfl <;> rcases hk' with rfl | rfl <;> simp [vnd] at e ⊢ <;> exact e
theorem vnd_21 {k k' : Nat} {a b a' : Jvm.Term} (hk : k = 4 ∨ k = 5 ∨ k = 6 ∨ k = 8) (hk' : k' = 7 ∨ k' = 9) : vnd k a (some b) ≠ vnd k' a' none := by
  rcases hk with rfl | rfl | rfl | rfl <;> rcases hk' with rfl | rfl <;> simp [vnd]
def gnP (σ : kS) (n : Nat) (acc : List Jvm.Term) (g : Nat) (r : Option Value) (τ' : kS) : Prop := ∃ t, r = some (.int (nI t)) ∧ t < n + (poT (knN σ n) (kTv σ g) acc).length ∧ kTv τ' t = kTv σ g ∧ gnQ σ τ' n (poT (knN σ n) (kTv σ g) acc)
theorem gn_nB {σ τ : kS} {n u m : Nat} {l : rwT} {acc : List Jvm.Term} (h : iE σ 186 200 n u m l) (hq : gnQ σ τ n acc) : nB τ 186 200 (n + acc.length) u := by
  have hB := iE_nB h
  have e : τ 186 = σ 186 := hq.2.2.1.1 186 (fun q => by have := tC_lt q; omega)
  exact ⟨hB.1, hq.1.1, hB.2.2.1, hq.1.2.1, by rw [e]; exact hB.2.2.2.2.1, by rw [e]; exact hB.2.2.2.2.2⟩
/-- the number of what has one already -/
theorem gn_same {σ τ : kS} {n u m p t : Nat} {l : rwT} {acc : List Jvm.Term} (h : iE σ 186 200 n u m l) (hq : gnQ σ τ n acc) (hp : p < n) (ht : t < n + acc.length) (e : kTv τ t = kTv σ p) : t = p := gn_inj hq ht (by omega) (e.trans (gn_tv h hq (Or.inl hp)).symm)
theorem gn_grd {σ τ : kS} {n u m p t : Nat} {l : rwT} {acc : List Jvm.Term} (h : iE σ 186 200 n u m l) (hq : gnQ σ τ n acc) (hp : kV n 200 u p) (hg : kGd σ p) (ht : t < n + acc.length) (e : kTv τ t = kTv σ p) : kGd τ t := by
  by_cases q : t < n
  · have e2 := gn_tv h hq (g := t) (Or.inl q)
    obtain rfl : t = p := kTv_inj h (Or.inl q) hp (e2.symm.trans e)
    exact (gn_gd h hq (Or.inl q)).mpr hg
  · exact (hq.2.2.2.2.2.2.2 t (by omega) ht).2
set_option maxRecDepth 100000 in
set_option maxHeartbeats 4000000 in
theorem mf_giveNumber (L : Nat) (xs : Nat → Int32) (σ : kS) (n u m : Nat) (l : rwT) (h : iE σ 186 200 n u m l) : ∀ (f d dd : Nat) (τ : kS) (g : Nat) (acc : List Jvm.Term), dd + f = 49 → kDp σ g + dd ≤ 48 → gnQ σ τ n acc → cloK σ n u acc → acc.Pairwise (fun x y => x ≠ y) → kV n 200 u g → kGd σ g → n + (poT (knN σ n) (kTv σ g) acc).length ≤ 200 → kXM kT L xs (d + f + 5) 58 [.ref 186, .int (nI g), .int (nI dd)] τ (gnP σ n acc g) := by
  intro f
  induction f with
  | zero =>
    intro d dd τ g acc hdd hdp
    omega
  | succ f IH =>
    intro d dd τ g acc hdd hdp hq hc hd hg hgd hroom
    have hB := gn_nB h hq
    have hu := hB.2.2.1
    have hn := h.2.1
    have hgl := iE_lt h hg
    unfold kXM
    iterate 2 (refine kX_one rfl ?_)
    refine kX_cal (mc_unn L xs (d + f + 4) τ 186 200 (n + acc.length) u (nI g) hB) rfl (Or.inr rfl) rfl rfl rfl (fun r1 σ1 q1 => ?_)
    obtain ⟨rfl, rfl⟩ := q1
    by_cases hgn : g < n
    · repeat refine kX_one rfl ?_
      refine kX_ifT (decide_eq_true (isB_F (fun ⟨g', z1, z2, z3⟩ => by have := nI_inj z3; omega))) ?_
      have hin : knN σ n (kTv σ g) ∨ kTv σ g ∈ acc := Or.inl ⟨g, hgn, rfl⟩
      have fin : gnP σ n acc g (some (.int (nI g))) τ := by
        unfold gnP
        rw [poT_in hin]
        exact ⟨g, rfl, by omega, gn_tv h hq hg, hq⟩
      iterate 1 (refine kX_one rfl ?_)
      refine kX_ret (i := .ireturn) (len := 1) rfl (Or.inr rfl) rfl (fin)
    have hg2 : 200 ≤ g ∧ g < 200 + u := by unfold kV at hg; omega
    repeat refine kX_one rfl ?_
    refine kX_ifF (decide_eq_false (isB_ne.mpr ⟨g, hg2.1, hg2.2, rfl⟩)) ?_
    repeat refine kX_one rfl ?_
    refine kX_if (fun q2 => ?_) (fun q2 => ?_)
    rotate_left
    · have q2 := qleF q2 dd 48
      omega
    have hnN := kN_hi h hg2.1 hg2.2
    have eT : ∀ {τ : kS} {acc : List Jvm.Term}, gnQ σ τ n acc → τ 2 g = σ 2 g ∧ τ 3 g = σ 3 g ∧ τ 4 g = σ 4 g := fun hq => by
      obtain ⟨a, b, c, -⟩ := hq.2.2.1.2.2 g hg2.1
      exact ⟨a, b, c⟩
    rcases k_of h hg2.1 hg2.2 with ⟨k, p, z, h3, hk, hp', hz, h4, h5, h6, h7, e⟩ | ⟨k, p, h3, hk, hp', hz, h4, h6, e⟩
    · have hdt : kDp σ g = 1 + max (kDp σ p) (kDp σ z) := tdp_2 (iE_V h) hk hp' hz (by omega) (by omega) h4 h5 h6 h7
      have hgd2 := hgd
      unfold kGd at hgd2
      rw [tgd_2 (iE_V h) hk hp' hz (by omega) (by omega) h4 h5 h6 h7, Bool.and_eq_true] at hgd2
      obtain ⟨⟨c1, d1⟩, -, -⟩ := po_tab h p h6 acc hc hd
      obtain ⟨⟨c2, d2⟩, -, -⟩ := po_tab h z h7 _ c1 d1
      have hgz : kTv σ g ∈ poT (knN σ n) (kTv σ z) (poT (knN σ n) (kTv σ p) acc) → kTv σ g ∈ acc := fun q => by
        have sg : vsz (kTv σ g) = 1 + vsz (kTv σ p) + vsz (kTv σ z) := by rw [e, vsz_nd2]
        rcases poT_sz _ _ _ q with y | y
        · rcases poT_sz _ _ _ y with w | w
          · exact w
          · omega
        · omega
      have hP : poT (knN σ n) (kTv σ g) acc = cit (kTv σ g ∈ acc) acc (poT (knN σ n) (kTv σ z) (poT (knN σ n) (kTv σ p) acc) ++ [kTv σ g]) := by
        rw [e] at hnN ⊢
        rw [poT_2 (by omega)]
        by_cases q : vnd k (kTv σ p) (some (kTv σ z)) ∈ acc
        · rw [cit_T (Or.inr q), cit_T q]
        · rw [cit_F (not_or.mpr ⟨hnN, q⟩), cit_F q]
      have hcl2 : kTv σ g ∈ acc → poT (knN σ n) (kTv σ z) (poT (knN σ n) (kTv σ p) acc) = acc := fun q => by
        rw [poT_in (hc g hg2.1 hg2.2 q p (by have := iE_lt h h6; omega) (Or.inl hp')), poT_in (hc g hg2.1 hg2.2 q z (by have := iE_lt h h7; omega) (Or.inr hz))]
      have hroom2 : n + (poT (knN σ n) (kTv σ z) (poT (knN σ n) (kTv σ p) acc)).length ≤ 200 ∧ (kTv σ g ∉ acc → n + (poT (knN σ n) (kTv σ z) (poT (knN σ n) (kTv σ p) acc)).length < 200) := by
        by_cases q : kTv σ g ∈ acc
        · rw [hcl2 q]
          rw [hP, cit_T q] at hroom
          exact ⟨hroom, fun y => absurd q y⟩
        · rw [hP, cit_F q, List.length_append, List.length_singleton] at hroom
          exact ⟨by omega, fun _ => by omega⟩
      have hl1 := poT_len (N := knN σ n) (g := kTv σ z) (acc := poT (knN σ n) (kTv σ p) acc)
      iterate 5 (refine kX_one rfl ?_)
      refine kX_ialdV rfl rfl (by decide) (g) (by first | rfl | decide) (hgl) ((eT hq).2.1.trans hp') ?_
      iterate 3 (refine kX_one rfl ?_)
      refine kX_top (y := nI (dd + 1)) (nI_1 dd) ?_
      refine kX_cal (IH d (dd + 1) τ p acc (by omega) (by omega) hq hc hd h6 hgd2.1 (by omega)) rfl (Or.inr rfl) rfl rfl rfl (fun r1 τ1 q1 => ?_)
      obtain ⟨x', rfl, x1, x2, hq1⟩ := q1
      iterate 6 (refine kX_one rfl ?_)
      refine kX_ialdV rfl rfl (by decide) (g) (by first | rfl | decide) (hgl) ((eT hq1).2.2.trans hz) ?_
      iterate 3 (refine kX_one rfl ?_)
      refine kX_top (y := nI (dd + 1)) (nI_1 dd) ?_
      refine kX_cal (IH d (dd + 1) τ1 z _ (by omega) (by omega) hq1 c1 d1 h7 hgd2.2 hroom2.1) rfl (Or.inr rfl) rfl rfl rfl (fun r1 τ2 q1 => ?_)
      obtain ⟨y', rfl, y1, y2, hq2⟩ := q1
      have x1' : x' < n + (poT (knN σ n) (kTv σ z) (poT (knN σ n) (kTv σ p) acc)).length := by omega
      have x2' : kTv τ2 x' = kTv σ p := by
        obtain ⟨w, w1, w2⟩ := gn_of h hq2 (g := kTv σ p) (by
          have := gn_has h hq1 (t := x') x1
          rw [x2] at this
          exact this.imp id poT_mono)
        by_cases q : x' < n
        · rw [gn_tv h hq2 (Or.inl q), ← gn_tv h hq1 (Or.inl q)]
          exact x2
        · obtain ⟨j, rfl⟩ : ∃ j, x' = n + j := ⟨x' - n, by omega⟩
          have hj : j < (poT (knN σ n) (kTv σ p) acc).length := by omega
          rw [hq2.2.2.2.2.2.2.1 j (by omega)]
          rw [hq1.2.2.2.2.2.2.1 j hj] at x2
          obtain ⟨r, er⟩ := poT_pre (N := knN σ n) (kTv σ z) (poT (knN σ n) (kTv σ p) acc)
          simp only [er]
          rw [List.getElem_append_left hj]
          exact x2
      have hT2 := hq2.1
      have hVn := hq2.2.2.2.2.1.1
      generalize hA2 : poT (knN σ n) (kTv σ z) (poT (knN σ n) (kTv σ p) acc) = A2 at *
      iterate 7 (refine kX_one rfl ?_)
      refine kX_ialdV rfl rfl (by decide) (g) (by first | rfl | decide) (hgl) ((eT hq2).1.trans hk) ?_
      iterate 2 (refine kX_one rfl ?_)
      refine kX_cal (mf_find L xs (d + f + 3) τ2 (n + A2.length) (nI k) (nI x') (nI y') hT2.1 hq2.2.1) rfl (Or.inr rfl) rfl rfl rfl (fun r1 σ1 q1 => ?_)
      obtain ⟨hq3, rfl⟩ := q1
      rcases hq3 with ⟨rfl, hno⟩ | ⟨t, t1, rfl, t3⟩
      · have hng : kTv σ g ∉ A2 := fun q => by
          obtain ⟨w, w1, w2⟩ := gn_of h hq2 (Or.inr q)
          rcases (hVn w w1).2 with ⟨k', z3, zk, zf, zs⟩ | ⟨k', a', b', z3, zk, zx, zy, z4, z5, z6, z7⟩ | ⟨k', a', z3, zk, zx, zy, z4, z6⟩
          · have w3 : kTv τ2 w = .arg w := tvl_0 zk z3
            rw [w2, e] at w3
            unfold vnd at w3
            simp only at w3
            split at w3
            · exact absurd w3 (by simp)
            · split at w3
              · exact absurd w3 (by simp)
              · split at w3 <;> exact absurd w3 (by simp)
          · have w3 : kTv τ2 w = vnd k' (kTv τ2 a') (some (kTv τ2 b')) := tvl_2 hVn zk zx zy (by omega) (by omega) z4 z5 z6 z7
            rw [w2, e] at w3
            obtain ⟨v1, v2, v3⟩ := vnd_inj2 (by omega) (by omega) w3
            subst v1
            have va : a' = x' := gn_inj hq2 z6 x1' (v2.symm.trans x2'.symm)
            have vb : b' = y' := gn_inj hq2 z7 y1 (v3.symm.trans y2.symm)
            subst va vb
            exact hno w ⟨w1, by rw [zk, fN_nI (by omega)]; omega⟩ ⟨zk, zx, zy⟩
          · have w3 : kTv τ2 w = vnd k' (kTv τ2 a') none := tvl_1 hVn zk zx zy (by omega) (by omega) z4 z6
            rw [w2, e] at w3
            exact absurd w3 (vnd_21 (by omega) (by omega))
        have hnacc : kTv σ g ∉ acc := fun q => hng (by rw [hcl2 q]; exact q)
        have hlt2 := hroom2.2 hnacc
        have hnew := gn_new (k := k) (x := x') (y := y') (a := nI x') (c := nI y') hq2 hlt2 (by omega) (Or.inr (Or.inl ⟨by omega, rfl, rfl, x1', y1⟩)) x1' (fun _ => y1) (fun q => by
          have hag : kAG σ n z := by
            rcases h3 with w | w | w
            · omega
            · omega
            · exact w.2
          have : y' = z := gn_same h hq2 hag.1 y1 y2
          rw [this]
          exact hag) (fun q => by omega) (gn_grd h hq2 h6 hgd2.1 x1' x2') (fun _ => gn_grd h hq2 h7 hgd2.2 y1 y2) (fun t ht t3 => hno t ⟨ht, t3⟩)
        rw [if_neg (by omega), x2', y2, ← e] at hnew
        have fin : gnP σ n acc g (some (.int (nI (n + A2.length)))) (cCo τ2 (n + A2.length) k (nI x') (nI y')) := by
          unfold gnP
          rw [hP, cit_F hnacc]
          refine ⟨n + A2.length, rfl, by simp, ?_, hnew⟩
          have := hnew.2.2.2.2.2.2.1 A2.length (by simp)
          rw [this, List.getElem_append_right (Nat.le_refl _)]
          simp
        iterate 10 (refine kX_one rfl ?_)
        refine kX_ialdV rfl rfl (by decide) (g) (by first | rfl | decide) (hgl) ((eT hq2).1.trans hk) ?_
        iterate 2 (refine kX_one rfl ?_)
        refine kX_cal (mf_newCompound L xs (d + f + 1) τ2 (n + A2.length) k (nI x') (nI y') hT2 hlt2) rfl (Or.inr rfl) rfl rfl rfl (fun r1 ω q1 => ?_)
        obtain ⟨rfl, rfl⟩ := q1
        refine kX_ret (i := .ireturn) (len := 1) rfl (Or.inr rfl) rfl (fin)
      · have htg : kTv τ2 t = kTv σ g := by
          rcases (hVn t t1.1).2 with ⟨k', z3, zk, zf, zs⟩ | ⟨k', a', b', z3, zk, zx, zy, z4, z5, z6, z7⟩ | ⟨k', a', z3, zk, zx, zy, z4, z6⟩
          · exact absurd (zf.symm.trans t3.2.1) (fun w => nI_m1 (by omega) w.symm)
          · have w3 : kTv τ2 t = vnd k' (kTv τ2 a') (some (kTv τ2 b')) := tvl_2 hVn zk zx zy (by omega) (by omega) z4 z5 z6 z7
            obtain rfl : k' = k := nI_inj (zk.symm.trans t3.1)
            obtain rfl : a' = x' := nI_inj (zx.symm.trans t3.2.1)
            obtain rfl : b' = y' := nI_inj (zy.symm.trans t3.2.2)
            rw [w3, x2', y2, e]
          · exact absurd (zy.symm.trans t3.2.2) (fun w => nI_m1 (by omega) w.symm)
        have hin : kTv σ g ∈ acc := by
          rcases gn_has h hq2 t1.1 with w | w
          · rw [htg] at w
            exact absurd w hnN
          · rw [htg] at w
            exact hgz w
        have eA := hcl2 hin
        have fin : gnP σ n acc g (some (.int (nI t))) τ2 := by
          unfold gnP
          rw [hP, cit_T hin]
          subst eA
          exact ⟨t, rfl, t1.1, htg, hq2⟩
        iterate 3 (refine kX_one rfl ?_)
        repeat refine kX_one rfl ?_
        refine kX_ifF (decide_eq_false (nI_m1 (by have := hT2.1; have := t1.1; omega))) ?_
        repeat refine kX_one rfl ?_
        refine kX_ret (i := .ireturn) (len := 1) rfl (Or.inr rfl) rfl (fin)
    · have hdt : kDp σ g = 1 + max (kDp σ p) 0 := tdp_1 (iE_V h) hk hp' hz (by omega) (by omega) h4 h6
      have hgd2 := hgd
      unfold kGd at hgd2
      rw [tgd_1 (iE_V h) hk hp' hz (by omega) (by omega) h4 h6] at hgd2
      obtain ⟨⟨c1, d1⟩, -, -⟩ := po_tab h p h6 acc hc hd
      have hgz : kTv σ g ∈ poT (knN σ n) (kTv σ p) acc → kTv σ g ∈ acc := fun q => by
        have sg : vsz (kTv σ g) = 1 + vsz (kTv σ p) := by rw [e, vsz_nd1]
        rcases poT_sz _ _ _ q with y | y
        · exact y
        · omega
      have hP : poT (knN σ n) (kTv σ g) acc = cit (kTv σ g ∈ acc) acc (poT (knN σ n) (kTv σ p) acc ++ [kTv σ g]) := by
        rw [e] at hnN ⊢
        rw [poT_1 (by omega)]
        by_cases q : vnd k (kTv σ p) none ∈ acc
        · rw [cit_T (Or.inr q), cit_T q]
        · rw [cit_F (not_or.mpr ⟨hnN, q⟩), cit_F q]
      have hcl2 : kTv σ g ∈ acc → poT (knN σ n) (kTv σ p) acc = acc := fun q => by
        rw [poT_in (hc g hg2.1 hg2.2 q p (by have := iE_lt h h6; omega) (Or.inl hp'))]
      have hroom2 : n + (poT (knN σ n) (kTv σ p) acc).length ≤ 200 ∧ (kTv σ g ∉ acc → n + (poT (knN σ n) (kTv σ p) acc).length < 200) := by
        by_cases q : kTv σ g ∈ acc
        · rw [hcl2 q]
          rw [hP, cit_T q] at hroom
          exact ⟨hroom, fun y => absurd q y⟩
        · rw [hP, cit_F q, List.length_append, List.length_singleton] at hroom
          exact ⟨by omega, fun _ => by omega⟩
      iterate 5 (refine kX_one rfl ?_)
      refine kX_ialdV rfl rfl (by decide) (g) (by first | rfl | decide) (hgl) ((eT hq).2.1.trans hp') ?_
      iterate 3 (refine kX_one rfl ?_)
      refine kX_top (y := nI (dd + 1)) (nI_1 dd) ?_
      refine kX_cal (IH d (dd + 1) τ p acc (by omega) (by omega) hq hc hd h6 hgd2 hroom2.1) rfl (Or.inr rfl) rfl rfl rfl (fun r1 τ2 q1 => ?_)
      obtain ⟨x', rfl, x1', x2', hq2⟩ := q1
      iterate 6 (refine kX_one rfl ?_)
      refine kX_ialdV rfl rfl (by decide) (g) (by first | rfl | decide) (hgl) ((eT hq2).2.2.trans hz) ?_
      iterate 3 (refine kX_one rfl ?_)
      have hB2 := gn_nB h hq2
      have r2 : kXM kT L xs (d + f + 5) 58 [.ref 186, .int (-1), .int (nI dd + Int32.ofInt 1)] τ2 (fun r τ' => r = some (.int (-1)) ∧ τ2 = τ') := by
        unfold kXM
        iterate 2 (refine kX_one rfl ?_)
        refine kX_cal (mc_unn L xs (d + f + 3) τ2 186 200 _ u (-1) hB2) rfl (Or.inr rfl) rfl rfl rfl (fun r1 σ1 q1 => ?_)
        obtain ⟨rfl, rfl⟩ := q1
        repeat refine kX_one rfl ?_
        refine kX_ifT (decide_eq_true (isB_F (fun ⟨g', z1, z2, z3⟩ => nI_m1 (by omega) z3.symm))) ?_
        iterate 1 (refine kX_one rfl ?_)
        refine kX_ret (i := .ireturn) (len := 1) rfl (Or.inr rfl) rfl (⟨rfl, rfl⟩)
      refine kX_cal r2 rfl (Or.inr rfl) rfl rfl rfl (fun r1 τ3 q1 => ?_)
      obtain ⟨rfl, rfl⟩ := q1
      have hT2 := hq2.1
      have hVn := hq2.2.2.2.2.1.1
      generalize hA2 : poT (knN σ n) (kTv σ p) acc = A2 at *
      iterate 7 (refine kX_one rfl ?_)
      refine kX_ialdV rfl rfl (by decide) (g) (by first | rfl | decide) (hgl) ((eT hq2).1.trans hk) ?_
      iterate 2 (refine kX_one rfl ?_)
      refine kX_cal (mf_find L xs (d + f + 3) τ2 (n + A2.length) (nI k) (nI x') (-1) hT2.1 hq2.2.1) rfl (Or.inr rfl) rfl rfl rfl (fun r1 σ1 q1 => ?_)
      obtain ⟨hq3, rfl⟩ := q1
      rcases hq3 with ⟨rfl, hno⟩ | ⟨t, t1, rfl, t3⟩
      · have hng : kTv σ g ∉ A2 := fun q => by
          obtain ⟨w, w1, w2⟩ := gn_of h hq2 (Or.inr q)
          rcases (hVn w w1).2 with ⟨k', z3, zk, zf, zs⟩ | ⟨k', a', b', z3, zk, zx, zy, z4, z5, z6, z7⟩ | ⟨k', a', z3, zk, zx, zy, z4, z6⟩
          · have w3 : kTv τ2 w = .arg w := tvl_0 zk z3
            rw [w2, e] at w3
            unfold vnd at w3
            simp only at w3
            split at w3 <;> exact absurd w3 (by simp)
          · have w3 : kTv τ2 w = vnd k' (kTv τ2 a') (some (kTv τ2 b')) := tvl_2 hVn zk zx zy (by omega) (by omega) z4 z5 z6 z7
            rw [w2, e] at w3
            exact absurd w3.symm (vnd_21 (by omega) (by omega))
          · have w3 : kTv τ2 w = vnd k' (kTv τ2 a') none := tvl_1 hVn zk zx zy (by omega) (by omega) z4 z6
            rw [w2, e] at w3
            obtain ⟨v1, v2⟩ := vnd_inj1 (by omega) (by omega) w3
            subst v1
            have va : a' = x' := gn_inj hq2 z6 x1' (v2.symm.trans x2'.symm)
            subst va
            exact hno w ⟨w1, by rw [zk, fN_nI (by omega)]; omega⟩ ⟨zk, zx, zy⟩
        have hnacc : kTv σ g ∉ acc := fun q => hng (by rw [hcl2 q]; exact q)
        have hlt2 := hroom2.2 hnacc
        have hnew := gn_new (k := k) (x := x') (y := 0) (a := nI x') (c := -1) hq2 hlt2 (by omega) (Or.inr (Or.inr ⟨by omega, rfl, rfl, x1'⟩)) x1' (fun _ => by omega) (fun q => by omega) (fun q => by
          have hag : kAG σ n p := by
            rcases h3 with w | w
            · omega
            · exact w.2
          have : x' = p := gn_same h hq2 hag.1 x1' x2'
          rw [this]
          exact hag) (gn_grd h hq2 h6 hgd2 x1' x2') (fun _ => by omega) (fun t ht t3 => hno t ⟨ht, t3⟩)
        rw [if_pos (by omega), x2', ← e] at hnew
        have fin : gnP σ n acc g (some (.int (nI (n + A2.length)))) (cCo τ2 (n + A2.length) k (nI x') (-1)) := by
          unfold gnP
          rw [hP, cit_F hnacc]
          refine ⟨n + A2.length, rfl, by simp, ?_, hnew⟩
          have := hnew.2.2.2.2.2.2.1 A2.length (by simp)
          rw [this, List.getElem_append_right (Nat.le_refl _)]
          simp
        iterate 10 (refine kX_one rfl ?_)
        refine kX_ialdV rfl rfl (by decide) (g) (by first | rfl | decide) (hgl) ((eT hq2).1.trans hk) ?_
        iterate 2 (refine kX_one rfl ?_)
        refine kX_cal (mf_newCompound L xs (d + f + 1) τ2 (n + A2.length) k (nI x') (-1) hT2 hlt2) rfl (Or.inr rfl) rfl rfl rfl (fun r1 ω q1 => ?_)
        obtain ⟨rfl, rfl⟩ := q1
        refine kX_ret (i := .ireturn) (len := 1) rfl (Or.inr rfl) rfl (fin)
      · have htg : kTv τ2 t = kTv σ g := by
          rcases (hVn t t1.1).2 with ⟨k', z3, zk, zf, zs⟩ | ⟨k', a', b', z3, zk, zx, zy, z4, z5, z6, z7⟩ | ⟨k', a', z3, zk, zx, zy, z4, z6⟩
          · exact absurd (zf.symm.trans t3.2.1) (fun w => nI_m1 (by omega) w.symm)
          · exact absurd (zy.symm.trans t3.2.2) (nI_m1 (by omega))
          · have w3 : kTv τ2 t = vnd k' (kTv τ2 a') none := tvl_1 hVn zk zx zy (by omega) (by omega) z4 z6
            obtain rfl : k' = k := nI_inj (zk.symm.trans t3.1)
            obtain rfl : a' = x' := nI_inj (zx.symm.trans t3.2.1)
            rw [w3, x2', e]
        have hin : kTv σ g ∈ acc := by
          rcases gn_has h hq2 t1.1 with w | w
          · rw [htg] at w
            exact absurd w hnN
          · rw [htg] at w
            exact hgz w
        have eA := hcl2 hin
        have fin : gnP σ n acc g (some (.int (nI t))) τ2 := by
          unfold gnP
          rw [hP, cit_T hin]
          subst eA
          exact ⟨t, rfl, t1.1, htg, hq2⟩
        iterate 3 (refine kX_one rfl ?_)
        repeat refine kX_one rfl ?_
        refine kX_ifF (decide_eq_false (nI_m1 (by have := hT2.1; have := t1.1; omega))) ?_
        repeat refine kX_one rfl ?_
        refine kX_ret (i := .ireturn) (len := 1) rfl (Or.inr rfl) rfl (fin)
