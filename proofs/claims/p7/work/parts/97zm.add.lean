/-! the class: add, takeApart, start -/
theorem nP_scr {σ : kS} {K c : Nat} {f : Nat → Int32} (h : nR σ K) (h1 : K + 2 < c) (h2 : c < K + 9) : nP σ (va_up σ c f) K := by
  refine ⟨fun e he => up_ne (by omega), up_ne (by omega), fun j _ _ => by rw [up_ne (by omega)], ?_⟩
  unfold nR
  rw [up_ne (by omega), up_ne (by omega)]
  exact h
set_option maxRecDepth 100000 in
set_option maxHeartbeats 4000000 in
theorem mc_add (L : Nat) (xs : Nat → Int32) (d : Nat) (σ : kS) (K st n u : Nat) (x y z : Int32) (h : nB σ K st n u) (hR : nR σ K) : kXM kT L xs (d + 2) 51 [.ref K, .int x, .int y, .int z] σ (fun r σ' => (r = some (.int 0) ∨ r = some (.int 1)) ∧ nP σ σ' K) := by
  have hb := isK_b h.1
  have hn := h.2.1
  unfold kXM
  have k31 : kX kT L xs (d + 2) 51 31 (lv_args 0 [.ref K, .int x, .int y, .int z]) [] σ (fun r σ' => (r = some (.int 0) ∨ r = some (.int 1)) ∧ nP σ σ' K) := by
    repeat refine kX_one rfl ?_
    refine kX_ret (i := .ireturn) (len := 1) rfl (Or.inr rfl) rfl (⟨Or.inl rfl, nP_refl hR⟩)
  iterate 2 (refine kX_one rfl ?_)
  refine kX_cal (mc_kHas L xs d σ K st n u x h) rfl (Or.inr rfl) rfl (jcall_v rfl rfl rfl (kT_kn h.1) rfl rfl) rfl (fun r1 σ1 q1 => ?_)
  obtain ⟨rfl, rfl⟩ := q1
  repeat refine kX_one rfl ?_
  refine kX_if (fun q => ?_) (fun q => ?_)
  · exact k31
  · obtain ⟨g, hg, rfl⟩ := nH_lt h.2.1 hb.2.2.2 h.2.2.1 (isB_ne.mp (qeqF q))
    obtain ⟨ln, l1, l2, l3⟩ := hR
    iterate 1 (refine kX_one rfl ?_)
    refine kX_getN rfl rfl (kT_kn h.1) rfl ?_
    iterate 1 (refine kX_one rfl ?_)
    refine kX_ialdN rfl (kT_k5 h.1 (Or.inl rfl)) (by decide) (g) (by first | rfl | decide) (hg) ?_
    iterate 1 (refine kX_one rfl ?_)
    refine kX_getN rfl rfl (kT_kn h.1) rfl ?_
    repeat refine kX_one rfl ?_
    refine kX_if (fun q2 => ?_) (fun q2 => ?_)
    · exact k31
    · iterate 1 (refine kX_one rfl ?_)
      refine kX_getN rfl rfl (kT_kn h.1) rfl ?_
      refine kX_top (l2) ?_
      iterate 1 (refine kX_one rfl ?_)
      repeat refine kX_one rfl ?_
      refine kX_if (fun q3 => ?_) (fun q3 => ?_)
      · have q3 := qlt q3 ln 776
        have k104 : ∀ τ, (∀ c, c < K + 5 ∨ K + 8 ≤ c → τ c = σ c) → kX kT L xs (d + 2) 51 104 (lv_args 0 [.ref K, .int (nI g), .int y, .int z]) [] τ (fun r σ' => (r = some (.int 0) ∨ r = some (.int 1)) ∧ nP σ σ' K) := by
          intro τ hτ
          have e7 : τ K 7 = nI ln := by rw [hτ K (by omega)]; exact l2
          iterate 1 (refine kX_one rfl ?_)
          refine kX_getN rfl rfl (kT_kn h.1) rfl ?_
          iterate 1 (refine kX_one rfl ?_)
          refine kX_getN rfl rfl (kT_kn h.1) rfl ?_
          refine kX_top (e7) ?_
          iterate 1 (refine kX_one rfl ?_)
          refine kX_iastN rfl (kT_k2 h.1 (Or.inl rfl)) (by decide) (ln) (by first | rfl | decide) (q3) ?_
          iterate 1 (refine kX_one rfl ?_)
          refine kX_getN rfl rfl (kT_kn h.1) rfl ?_
          iterate 1 (refine kX_one rfl ?_)
          refine kX_getN rfl rfl (kT_kn h.1) rfl ?_
          refine kX_top (y := nI ln) (by rw [up_ne (by omega)]; exact e7) ?_
          iterate 1 (refine kX_one rfl ?_)
          refine kX_iastN rfl (kT_k2 h.1 (Or.inr (Or.inl rfl))) (by decide) (ln) (by first | rfl | decide) (q3) ?_
          iterate 1 (refine kX_one rfl ?_)
          refine kX_getN rfl rfl (kT_kn h.1) rfl ?_
          iterate 1 (refine kX_one rfl ?_)
          refine kX_getN rfl rfl (kT_kn h.1) rfl ?_
          refine kX_top (y := nI ln) (by rw [up_ne (by omega), up_ne (by omega)]; exact e7) ?_
          iterate 1 (refine kX_one rfl ?_)
          refine kX_iastN rfl (kT_k2 h.1 (Or.inr (Or.inr rfl))) (by decide) (ln) (by first | rfl | decide) (q3) ?_
          iterate 2 (refine kX_one rfl ?_)
          refine kX_getN rfl rfl (kT_kn h.1) rfl ?_
          refine kX_top (y := nI ln) (by rw [up_ne (by omega), up_ne (by omega), up_ne (by omega)]; exact e7) ?_
          iterate 2 (refine kX_one rfl ?_)
          refine kX_putN rfl rfl (kT_kn h.1) rfl (rfl) rfl ?_
          iterate 1 (refine kX_one rfl ?_)
          refine kX_ret (i := .ireturn) (len := 1) rfl (Or.inr rfl) rfl ⟨Or.inr rfl, fun c hc => ?_, ?_, fun j j1 j2 => ?_, ln + 1, by omega, ?_, fun i hi => ?_⟩
          · rw [up_ne (by omega), up_ne (by omega), up_ne (by omega), up_ne (by omega)]
            exact hτ c (by omega)
          · rw [up_ne (by omega), up_ne (by omega), up_ne (by omega), up_ne (by omega)]
            exact hτ _ (by omega)
          · rw [up_eq, up_ne (by omega), up_ne (by omega), up_ne (by omega), hτ K (by omega)]
            exact pk_un j1
          · rw [up_eq, ← nI_1]
            exact pk_us
          · rw [up_ne (show K + 2 ≠ K by omega), up_ne (show K + 2 ≠ K + 4 by omega), up_ne (show K + 2 ≠ K + 3 by omega), up_eq]
            by_cases e : i = ln
            · subst e
              exact ⟨g, hg, pk_us⟩
            · rw [pk_un e, hτ (K + 2) (by omega)]
              exact l3 i (by omega)
        iterate 1 (refine kX_one rfl ?_)
        refine kX_getN rfl rfl (kT_kn h.1) rfl ?_
        iterate 2 (refine kX_one rfl ?_)
        refine kX_getN rfl rfl (kT_kn h.1) rfl ?_
        refine kX_iastN rfl (kT_k5 h.1 (Or.inl rfl)) (by decide) (g) (by first | rfl | decide) (hg) ?_
        iterate 1 (refine kX_one rfl ?_)
        refine kX_getN rfl rfl (kT_kn h.1) rfl ?_
        iterate 2 (refine kX_one rfl ?_)
        refine kX_getN rfl rfl (kT_kn h.1) rfl ?_
        refine kX_iastN rfl (kT_k5 h.1 (Or.inr rfl)) (by decide) (g) (by first | rfl | decide) (hg) ?_
        generalize hX : va_up (va_up σ (K + 5) _) (K + 6) _ = τ
        have hτ : ∀ c, c < K + 5 ∨ K + 7 ≤ c → τ c = σ c := fun c hc => by
          rw [← hX, up_ne (by omega), up_ne (by omega)]
        iterate 1 (refine kX_one rfl ?_)
        refine kX_getN rfl rfl (kT_kn h.1) rfl ?_
        iterate 2 (refine kX_one rfl ?_)
        refine kX_ialdN rfl rfl (by decide) (g) (by first | rfl | decide) (hg) ?_
        iterate 1 (refine kX_one rfl ?_)
        repeat refine kX_one rfl ?_
        refine kX_if (fun q4 => ?_) (fun q4 => ?_)
        · exact k104 τ (fun c hc => hτ c (by omega))
        · iterate 1 (refine kX_one rfl ?_)
          refine kX_getN rfl rfl (kT_kn h.1) rfl ?_
          iterate 1 (refine kX_one rfl ?_)
          refine kX_getN rfl rfl (kT_kn h.1) rfl ?_
          iterate 2 (refine kX_one rfl ?_)
          refine kX_ialdN rfl rfl (by decide) (g) (by first | rfl | decide) (hg) ?_
          refine kX_cal (mc_has L xs d τ n _ hn (by rw [hτ 1 (by omega)]; exact h.2.2.2.1)) rfl (Or.inr rfl) rfl rfl rfl (fun r1 σ1 q1 => ?_)
          obtain ⟨rfl, rfl⟩ := q1
          repeat refine kX_one rfl ?_
          refine kX_if (fun q5 => ?_) (fun q5 => ?_)
          · exact k104 τ (fun c hc => hτ c (by omega))
          · obtain ⟨t, t1, t2⟩ := isB_ne.mp (qeqF q5)
            have t2 : τ 3 g = nI t := t2
            iterate 1 (refine kX_one rfl ?_)
            refine kX_getN rfl rfl (kT_kn h.1) rfl ?_
            iterate 1 (refine kX_one rfl ?_)
            refine kX_getN rfl rfl (kT_kn h.1) rfl ?_
            iterate 2 (refine kX_one rfl ?_)
            refine kX_ialdV rfl rfl (by decide) (g) (by first | rfl | decide) (hg) (t2) ?_
            iterate 1 (refine kX_one rfl ?_)
            refine kX_getN rfl rfl (kT_kn h.1) rfl ?_
            refine kX_iastN rfl ((kT_k7 h.1).1) (by decide) (t) (by first | rfl | decide) (by omega) ?_
            exact k104 _ (fun c hc => by rw [up_ne (by omega)]; exact hτ c (by omega))
      · exact k31
set_option maxRecDepth 100000 in
set_option maxHeartbeats 4000000 in
theorem mc_takeAt (L : Nat) (xs : Nat → Int32) (d : Nat) (σ : kS) (K st n u i ln : Nat) (h : nB σ K st n u) (hR : nR σ K) (hln : σ K 7 = nI ln) (hl6 : ln ≤ 776) (hi : i < ln) : kXM kT L xs (d + 52) 53 [.ref K, .int (nI i)] σ (fun r σ' => (r = some (.int 0) ∨ r = some (.int 1)) ∧ nP σ σ' K) := by
  have hb := isK_b h.1
  obtain ⟨ln', l1, l2, l3⟩ := hR
  obtain rfl : ln = ln' := nI_inj (hln.symm.trans l2)
  have hR : nR σ K := ⟨ln, l1, l2, l3⟩
  obtain ⟨g, hg, hg2⟩ := l3 i hi
  have hz : nP σ σ K := nP_refl hR
  unfold kXM
  iterate 1 (refine kX_one rfl ?_)
  refine kX_getN rfl rfl (kT_kn h.1) rfl ?_
  iterate 1 (refine kX_one rfl ?_)
  refine kX_ialdV rfl (kT_k2 h.1 (Or.inl rfl)) (by decide) (i) (by first | rfl | decide) (by omega) (hg2) ?_
  iterate 2 (refine kX_one rfl ?_)
  refine kX_getN rfl rfl (kT_kn h.1) rfl ?_
  iterate 2 (refine kX_one rfl ?_)
  refine kX_ialdN rfl rfl (by decide) (g) (by first | rfl | decide) (hg) ?_
  iterate 2 (refine kX_one rfl ?_)
  refine kX_getN rfl rfl (kT_kn h.1) rfl ?_
  iterate 2 (refine kX_one rfl ?_)
  refine kX_ialdN rfl rfl (by decide) (g) (by first | rfl | decide) (hg) ?_
  iterate 4 (refine kX_one rfl ?_)
  refine kX_getN rfl rfl (kT_kn h.1) rfl ?_
  iterate 2 (refine kX_one rfl ?_)
  refine kX_ialdN rfl rfl (by decide) (g) (by first | rfl | decide) (hg) ?_
  by_cases hy : ∃ k, 4 ≤ k ∧ k < 9 ∧ σ 2 g = nI k
  · obtain ⟨k, hk4, hk, hk2⟩ := hy
    refine kX_top (hk2) ?_
    have : k = 4 ∨ k = 5 ∨ k = 6 ∨ k = 7 ∨ k = 8 := by omega
    rcases this with rfl | rfl | rfl | rfl | rfl
    · iterate 5 (refine kX_one rfl ?_)
      refine kX_cal (mc_add L xs (d + 49) σ K st n u (σ 3 g) _ _ h hR) rfl (Or.inr rfl) rfl (jcall_v rfl rfl rfl (kT_kn h.1) rfl rfl) rfl (fun r1 σ1 q1 => ?_)
      obtain ⟨hq, hP1⟩ := q1
      rcases hq with rfl | rfl
      · iterate 5 (refine kX_one rfl ?_)
        refine kX_cal (mc_add L xs (d + 49) σ1 K st n u (σ 4 g) _ _ (nB_P h hP1) hP1.2.2.2) rfl (Or.inr rfl) rfl (jcall_v rfl rfl rfl (kT_kn h.1) rfl rfl) rfl (fun r1 σ1 q1 => ?_)
        obtain ⟨hq, hP2⟩ := q1
        rcases hq with rfl | rfl
        · repeat refine kX_one rfl ?_
          refine kX_ret (i := .ireturn) (len := 1) rfl (Or.inr rfl) rfl (⟨Or.inl rfl, nP_trans hP1 hP2⟩)
        · repeat refine kX_one rfl ?_
          refine kX_ret (i := .ireturn) (len := 1) rfl (Or.inr rfl) rfl (⟨Or.inr rfl, nP_trans hP1 hP2⟩)
      · iterate 5 (refine kX_one rfl ?_)
        refine kX_cal (mc_add L xs (d + 49) σ1 K st n u (σ 4 g) _ _ (nB_P h hP1) hP1.2.2.2) rfl (Or.inr rfl) rfl (jcall_v rfl rfl rfl (kT_kn h.1) rfl rfl) rfl (fun r1 σ1 q1 => ?_)
        obtain ⟨hq, hP2⟩ := q1
        rcases hq with rfl | rfl
        · repeat refine kX_one rfl ?_
          refine kX_ret (i := .ireturn) (len := 1) rfl (Or.inr rfl) rfl (⟨Or.inr rfl, nP_trans hP1 hP2⟩)
        · repeat refine kX_one rfl ?_
          refine kX_ret (i := .ireturn) (len := 1) rfl (Or.inr rfl) rfl (⟨Or.inr rfl, nP_trans hP1 hP2⟩)
    · iterate 4 (refine kX_one rfl ?_)
      refine kX_cal (mc_canMake L xs K st n u 49 d 0 σ (σ 4 g) rfl h hR) rfl (Or.inr rfl) rfl (jcall_v rfl rfl rfl (kT_kn h.1) rfl rfl) rfl (fun r1 σ1 q1 => ?_)
      obtain ⟨hq, hP1⟩ := q1
      rcases hq with rfl | rfl
      · repeat refine kX_one rfl ?_
        refine kX_ret (i := .ireturn) (len := 1) rfl (Or.inr rfl) rfl (⟨Or.inl rfl, hP1⟩)
      · iterate 5 (refine kX_one rfl ?_)
        refine kX_cal (mc_add L xs (d + 49) σ1 K st n u (σ 3 g) _ _ (nB_P h hP1) hP1.2.2.2) rfl (Or.inr rfl) rfl (jcall_v rfl rfl rfl (kT_kn h.1) rfl rfl) rfl (fun r1 σ1 q1 => ?_)
        obtain ⟨hq, hP2⟩ := q1
        rcases hq with rfl | rfl
        · repeat refine kX_one rfl ?_
          refine kX_ret (i := .ireturn) (len := 1) rfl (Or.inr rfl) rfl (⟨Or.inl rfl, nP_trans hP1 hP2⟩)
        · repeat refine kX_one rfl ?_
          refine kX_ret (i := .ireturn) (len := 1) rfl (Or.inr rfl) rfl (⟨Or.inr rfl, nP_trans hP1 hP2⟩)
    · iterate 3 (refine kX_one rfl ?_)
      refine kX_cal (mc_hasPriv L xs (d + 50) σ K st n u (σ 4 g) h) rfl (Or.inr rfl) rfl (jcall_v rfl rfl rfl (kT_kn h.1) rfl rfl) rfl (fun r1 σ1 q1 => ?_)
      obtain ⟨hq, rfl⟩ := q1
      rcases hq with rfl | rfl
      · repeat refine kX_one rfl ?_
        refine kX_ret (i := .ireturn) (len := 1) rfl (Or.inr rfl) rfl (⟨Or.inl rfl, hz⟩)
      · iterate 5 (refine kX_one rfl ?_)
        refine kX_cal (mc_add L xs (d + 49) σ K st n u (σ 3 g) _ _ h hR) rfl (Or.inr rfl) rfl (jcall_v rfl rfl rfl (kT_kn h.1) rfl rfl) rfl (fun r1 σ1 q1 => ?_)
        obtain ⟨hq, hP2⟩ := q1
        rcases hq with rfl | rfl
        · repeat refine kX_one rfl ?_
          refine kX_ret (i := .ireturn) (len := 1) rfl (Or.inr rfl) rfl (⟨Or.inl rfl, hP2⟩)
        · repeat refine kX_one rfl ?_
          refine kX_ret (i := .ireturn) (len := 1) rfl (Or.inr rfl) rfl (⟨Or.inr rfl, hP2⟩)
    · repeat refine kX_one rfl ?_
      refine kX_ret (i := .ireturn) (len := 1) rfl (Or.inr rfl) rfl (⟨Or.inl rfl, hz⟩)
    · iterate 5 (refine kX_one rfl ?_)
      refine kX_cal (mc_add L xs (d + 49) σ K st n u (σ 3 g) _ _ h hR) rfl (Or.inr rfl) rfl (jcall_v rfl rfl rfl (kT_kn h.1) rfl rfl) rfl (fun r1 σ1 q1 => ?_)
      obtain ⟨hq, hP2⟩ := q1
      rcases hq with rfl | rfl
      · repeat refine kX_one rfl ?_
        refine kX_ret (i := .ireturn) (len := 1) rfl (Or.inr rfl) rfl (⟨Or.inl rfl, hP2⟩)
      · repeat refine kX_one rfl ?_
        refine kX_ret (i := .ireturn) (len := 1) rfl (Or.inr rfl) rfl (⟨Or.inr rfl, hP2⟩)
  · have hout : (σ 2 g).toInt < 4 ∨ 8 < (σ 2 g).toInt := by
      refine Classical.byContradiction (fun hh => hy ?_)
      have h0 : ¬ σ 2 g < 0 := fun z => by
        rw [Int32.lt_iff_toInt_lt] at z
        have : (0 : Int32).toInt = 0 := rfl
        omega
      obtain ⟨k, hk, hk2⟩ := nI_of h0
      rw [hk2, nI_toInt hk] at hh
      exact ⟨k, by omega, by omega, hk2⟩
    refine kX_tabO rfl hout rfl ?_
    repeat refine kX_one rfl ?_
    refine kX_ret (i := .ireturn) (len := 1) rfl (Or.inr rfl) rfl (⟨Or.inl rfl, hz⟩)
set_option maxRecDepth 100000 in
set_option maxHeartbeats 4000000 in
theorem mc_takeApart (L : Nat) (xs : Nat → Int32) (d : Nat) (σ : kS) (K st n u : Nat) (h : nB σ K st n u) (hR : nR σ K) : kXM kT L xs (d + 53) 52 [.ref K] σ (fun r σ' => r = none ∧ nP σ σ' K) := by
  unfold kXM
  have k64 : ∀ τ lv, nP σ τ K → nk lv = true → ([(0, .ref K)] : jL).map (fun q => jl lv q.1) = ([(0, Value.ref K)] : jL).map (fun q => some q.2) → kX kT L xs (d + 53) 52 64 lv [] τ (fun r σ' => r = none ∧ nP σ σ' K) := by
    intro τ lv hP hk hlv
    refine kX_lv _ hk rfl hlv ?_
    iterate 2 (refine kX_one rfl ?_)
    refine kX_putN rfl rfl (kT_kn h.1) rfl (rfl) rfl ?_
    refine kX_ret (i := .return_) (len := 1) rfl (Or.inr rfl) rfl ⟨rfl, nP_trans hP ⟨fun c hc => up_ne (by omega), up_ne (by omega), fun j j1 j2 => ?_, ?_⟩⟩
    · rw [up_eq]
      exact pk_un j2
    · obtain ⟨ln, l1, l2, l3⟩ := hP.2.2.2
      refine ⟨ln, l1, ?_, ?_⟩
      · rw [up_eq]
        exact l2
      · rw [up_ne (by omega)]
        exact l3
  have inner : ∀ p : Nat, p ≤ 776 → (∀ τ v, (v = 0 ∨ v = 1) → nP σ τ K → kX kT L xs (d + 53) 52 58 [(1, .int v), (2, .int (nI p)), (0, .ref K)] [] τ (fun r σ' => r = none ∧ nP σ σ' K)) → ∀ q : Nat × Int32 × kS, (q.1 ≤ 776 ∧ (q.2.1 = 0 ∨ q.2.1 = 1) ∧ nP σ q.2.2 K) → kX kT L xs (d + 53) 52 19 [(3, .int (nI q.1)), (1, .int q.2.1), (2, .int (nI p)), (0, .ref K)] [] q.2.2 (fun r σ' => r = none ∧ nP σ σ' K) := by
    intro p hp he
    refine kX_while (fun q : Nat × Int32 × kS => [(3, .int (nI q.1)), (1, .int q.2.1), (2, .int (nI p)), (0, .ref K)]) (fun q => q.2.2) _ (fun q => 776 - q.1) ?_
    rintro ⟨i, v, τ⟩ ⟨i1, i2, i3⟩ ih
    dsimp only at i1 i2 i3 ih ⊢
    obtain ⟨ln, l1, l2, l3⟩ := i3.2.2.2
    iterate 2 (refine kX_one rfl ?_)
    refine kX_getN rfl rfl (kT_kn h.1) rfl ?_
    refine kX_top (l2) ?_
    repeat refine kX_one rfl ?_
    refine kX_if (fun q => ?_) (fun q => ?_)
    · exact kX_lv _ rfl rfl rfl (he τ v i2 i3)
    · have q := qgeF q i ln
      iterate 2 (refine kX_one rfl ?_)
      repeat refine kX_one rfl ?_
      refine kX_if (fun q2 => ?_) (fun q2 => ?_)
      · exact kX_lv _ rfl rfl rfl (he τ v i2 i3)
      · have k51 : ∀ τ' v', (v' = 0 ∨ v' = 1) → nP σ τ' K → kX kT L xs (d + 53) 52 51 [(3, .int (nI i)), (1, .int v), (2, .int (nI p)), (0, .ref K)] [.int v'] τ' (fun r σ' => r = none ∧ nP σ σ' K) := by
          intro τ' v' x1 x2
          iterate 3 (refine kX_one rfl ?_)
          have := ih (i + 1, v', τ') ⟨by simp only; omega, x1, x2⟩ (by simp only; omega)
          dsimp only at this
          rw [← nI_1] at this
          exact kX_lv _ rfl rfl rfl this
        iterate 2 (refine kX_one rfl ?_)
        refine kX_cal (mc_takeAt L xs d τ K st n u i ln (nB_P h i3) i3.2.2.2 l2 l1 q) rfl (Or.inr rfl) rfl (jcall_v rfl rfl rfl (kT_kn h.1) rfl rfl) rfl (fun r1 σ1 q1 => ?_)
        obtain ⟨hq, hP1⟩ := q1
        rcases hq with rfl | rfl
        · iterate 2 (refine kX_one rfl ?_)
          rcases i2 with rfl | rfl
          · iterate 2 (refine kX_one rfl ?_)
            exact k51 σ1 0 (Or.inl rfl) (nP_trans i3 hP1)
          · iterate 3 (refine kX_one rfl ?_)
            exact k51 σ1 1 (Or.inr rfl) (nP_trans i3 hP1)
        · iterate 3 (refine kX_one rfl ?_)
          exact k51 σ1 1 (Or.inr rfl) (nP_trans i3 hP1)
  have outer : ∀ q : Nat × Int32 × kS, (q.1 ≤ 777 ∧ (q.2.1 = 0 ∨ q.2.1 = 1) ∧ nP σ q.2.2 K) → kX kT L xs (d + 53) 52 4 [(2, .int (nI q.1)), (1, .int q.2.1), (0, .ref K)] [] q.2.2 (fun r σ' => r = none ∧ nP σ σ' K) := by
    refine kX_while (fun q : Nat × Int32 × kS => [(2, .int (nI q.1)), (1, .int q.2.1), (0, .ref K)]) (fun q => q.2.2) _ (fun q => 777 - q.1) ?_
    rintro ⟨p, v, τ⟩ ⟨i1, i2, i3⟩ ih
    dsimp only at i1 i2 i3 ih ⊢
    iterate 2 (refine kX_one rfl ?_)
    repeat refine kX_one rfl ?_
    refine kX_if (fun q => ?_) (fun q => ?_)
    · exact k64 τ _ i3 rfl rfl
    · have q := qgtF q p 776
      iterate 1 (refine kX_one rfl ?_)
      repeat refine kX_one rfl ?_
      refine kX_if (fun q2 => ?_) (fun q2 => ?_)
      · exact k64 τ _ i3 rfl rfl
      · iterate 4 (refine kX_one rfl ?_)
        refine kX_lv _ rfl rfl rfl (inner p q (fun τ' v' x1 x2 => ?_) (0, 0, τ) ⟨Nat.zero_le _, Or.inl rfl, i3⟩)
        iterate 2 (refine kX_one rfl ?_)
        have := ih (p + 1, v', τ') ⟨by simp only; omega, x1, x2⟩ (by simp only; omega)
        dsimp only at this
        rw [← nI_1] at this
        exact kX_lv _ rfl rfl rfl this
  iterate 4 (refine kX_one rfl ?_)
  exact kX_lv _ rfl rfl rfl (outer (0, 1, σ) ⟨Nat.zero_le _, Or.inr rfl, nP_refl hR⟩)
