section
/-! the class: add, takeApart, start -/
theorem nP_scr {σ : kS} {K c : Nat} {f : Nat → Int32} (h : nR σ K) (h1 : K + 2 < c) (h2 : c < K + 9) : nP σ (va_up σ c f) K := by
  refine ⟨fun e he => up_ne (by omega), up_ne (by omega), fun j _ _ => by rw [up_ne (by omega)], ?_⟩
  unfold nR
  rw [up_ne (by omega), up_ne (by omega)]
  exact h
set_option maxRecDepth 100000 in
set_option maxHeartbeats 4000000 in
theorem mc_add (L : Nat) (xs : Nat → Int32) (d : Nat) (σ : kS) (K st n u : Nat) (x y z : Int32) (h : nB σ K st n u) (hR : nR σ K) : kXM kT L xs (d + 2) 51 [.ref K, .int x, .int y, .int z] σ (fun r σ' => (r = some (.int 0) ∨ r = some (.int 1)) ∧ nP σ σ' K) := by
  have hb := isK_b h.1
  have hn := h.2.1
  unfold kXM
  have k31 : kX kT L xs (d + 2) 51 31 (lv_args 0 [.ref K, .int x, .int y, .int z]) [] σ (fun r σ' => (r = some (.int 0) ∨ r = some (.int 1)) ∧ nP σ σ' K) := by
    repeat refine kX_one rfl ?_
    refine kX_ret (i := .ireturn) (len := 1) rfl (Or.inr rfl) rfl (⟨Or.inl rfl, nP_refl hR⟩)
  iterate 2 (refine kX_one rfl ?_)
  refine kX_cal (mc_kHas L xs d σ K st n u x h) rfl (Or.inr rfl) rfl (jcall_v rfl rfl rfl (kT_kn h.1) rfl rfl) rfl (fun r1 σ1 q1 => ?_)
  obtain ⟨rfl, rfl⟩ := q1
  repeat refine kX_one rfl ?_
  refine kX_if (fun q => ?_) (fun q => ?_)
  · exact k31
  · obtain ⟨g, hg, rfl⟩ := nH_lt h.2.1 hb.2.2.2 h.2.2.1 (isB_ne.mp (qeqF q))
    obtain ⟨ln, l1, l2, l3⟩ := hR
    iterate 1 (refine kX_one rfl ?_)
    refine kX_getN rfl rfl (kT_kn h.1) rfl ?_
    iterate 1 (refine kX_one rfl ?_)
    refine kX_ialdN rfl (kT_k5 h.1 (Or.inl rfl)) (by decide) (g) (by first | rfl | decide) (hg) ?_
    iterate 1 (refine kX_one rfl ?_)
    refine kX_getN rfl rfl (kT_kn h.1) rfl ?_
    repeat refine kX_one rfl ?_
    refine kX_if (fun q2 => ?_) (fun q2 => ?_)
    · exact k31
    · iterate 1 (refine kX_one rfl ?_)
      refine kX_getN rfl rfl (kT_kn h.1) rfl ?_
      refine kX_top (l2) ?_
      iterate 1 (refine kX_one rfl ?_)
      repeat refine kX_one rfl ?_
      refine kX_if (fun q3 => ?_) (fun q3 => ?_)
      · have q3 := qlt q3 ln 776
        have k104 : ∀ τ, (∀ c, c < K + 5 ∨ K + 8 ≤ c → τ c = σ c) → kX kT L xs (d + 2) 51 104 (lv_args 0 [.ref K, .int (nI g), .int y, .int z]) [] τ (fun r σ' => (r = some (.int 0) ∨ r = some (.int 1)) ∧ nP σ σ' K) := by
          intro τ hτ
          have e7 : τ K 7 = nI ln := by rw [hτ K (by omega)]; exact l2
          iterate 1 (refine kX_one rfl ?_)
          refine kX_getN rfl rfl (kT_kn h.1) rfl ?_
          iterate 1 (refine kX_one rfl ?_)
          refine kX_getN rfl rfl (kT_kn h.1) rfl ?_
          refine kX_top (e7) ?_
          iterate 1 (refine kX_one rfl ?_)
          refine kX_iastN rfl (kT_k2 h.1 (Or.inl rfl)) (by decide) (ln) (by first | rfl | decide) (q3) ?_
          iterate 1 (refine kX_one rfl ?_)
          refine kX_getN rfl rfl (kT_kn h.1) rfl ?_
          iterate 1 (refine kX_one rfl ?_)
          refine kX_getN rfl rfl (kT_kn h.1) rfl ?_
          refine kX_top (y := nI ln) (by rw [up_ne (by omega)]; exact e7) ?_
          iterate 1 (refine kX_one rfl ?_)
          refine kX_iastN rfl (kT_k2 h.1 (Or.inr (Or.inl rfl))) (by decide) (ln) (by first | rfl | decide) (q3) ?_
          iterate 1 (refine kX_one rfl ?_)
          refine kX_getN rfl rfl (kT_kn h.1) rfl ?_
          iterate 1 (refine kX_one rfl ?_)
          refine kX_getN rfl rfl (kT_kn h.1) rfl ?_
          refine kX_top (y := nI ln) (by rw [up_ne (by omega), up_ne (by omega)]; exact e7) ?_
          iterate 1 (refine kX_one rfl ?_)
          refine kX_iastN rfl (kT_k2 h.1 (Or.inr (Or.inr rfl))) (by decide) (ln) (by first | rfl | decide) (q3) ?_
          iterate 2 (refine kX_one rfl ?_)
          refine kX_getN rfl rfl (kT_kn h.1) rfl ?_
          refine kX_top (y := nI ln) (by rw [up_ne (by omega), up_ne (by omega), up_ne (by omega)]; exact e7) ?_
          iterate 2 (refine kX_one rfl ?_)
          refine kX_putN rfl rfl (kT_kn h.1) rfl (rfl) rfl ?_
          iterate 1 (refine kX_one rfl ?_)
          refine kX_ret (i := .ireturn) (len := 1) rfl (Or.inr rfl) rfl ⟨Or.inr rfl, fun c hc => ?_, ?_, fun j j1 j2 => ?_, ln + 1, by omega, ?_, fun i hi => ?_⟩
          · rw [up_ne (by omega), up_ne (by omega), up_ne (by omega), up_ne (by omega)]
            exact hτ c (by omega)
          · rw [up_ne (by omega), up_ne (by omega), up_ne (by omega), up_ne (by omega)]
            exact hτ _ (by omega)
          · rw [up_eq, up_ne (by omega), up_ne (by omega), up_ne (by omega), hτ K (by omega)]
            exact pk_un j1
          · rw [up_eq, ← nI_1]
            exact pk_us
          · rw [up_ne (show K + 2 ≠ K by omega), up_ne (show K + 2 ≠ K + 4 by omega), up_ne (show K + 2 ≠ K + 3 by omega), up_eq]
            by_cases e : i = ln
            · subst e
              exact ⟨g, hg, pk_us⟩
            · rw [pk_un e, hτ (K + 2) (by omega)]
              exact l3 i (by omega)
        iterate 1 (refine kX_one rfl ?_)
        refine kX_getN rfl rfl (kT_kn h.1) rfl ?_
        iterate 2 (refine kX_one rfl ?_)
        refine kX_getN rfl rfl (kT_kn h.1) rfl ?_
        refine kX_iastN rfl (kT_k5 h.1 (Or.inl rfl)) (by decide) (g) (by first | rfl | decide) (hg) ?_
        iterate 1 (refine kX_one rfl ?_)
        refine kX_getN rfl rfl (kT_kn h.1) rfl ?_
        iterate 2 (refine kX_one rfl ?_)
        refine kX_getN rfl rfl (kT_kn h.1) rfl ?_
        refine kX_iastN rfl (kT_k5 h.1 (Or.inr rfl)) (by decide) (g) (by first | rfl | decide) (hg) ?_
        generalize hX : va_up (va_up σ (K + 5) _) (K + 6) _ = τ
        have hτ : ∀ c, c < K + 5 ∨ K + 7 ≤ c → τ c = σ c := fun c hc => by
          rw [← hX, up_ne (by omega), up_ne (by omega)]
        iterate 1 (refine kX_one rfl ?_)
        refine kX_getN rfl rfl (kT_kn h.1) rfl ?_
        iterate 2 (refine kX_one rfl ?_)
        refine kX_ialdN rfl rfl (by decide) (g) (by first | rfl | decide) (hg) ?_
        iterate 1 (refine kX_one rfl ?_)
        repeat refine kX_one rfl ?_
        refine kX_if (fun q4 => ?_) (fun q4 => ?_)
        · exact k104 τ (fun c hc => hτ c (by omega))
        · iterate 1 (refine kX_one rfl ?_)
          refine kX_getN rfl rfl (kT_kn h.1) rfl ?_
          iterate 1 (refine kX_one rfl ?_)
          refine kX_getN rfl rfl (kT_kn h.1) rfl ?_
          iterate 2 (refine kX_one rfl ?_)
          refine kX_ialdN rfl rfl (by decide) (g) (by first | rfl | decide) (hg) ?_
          refine kX_cal (mc_has L xs d τ n _ hn (by rw [hτ 1 (by omega)]; exact h.2.2.2.1)) rfl (Or.inr rfl) rfl rfl rfl (fun r1 σ1 q1 => ?_)
          obtain ⟨rfl, rfl⟩ := q1
          repeat refine kX_one rfl ?_
          refine kX_if (fun q5 => ?_) (fun q5 => ?_)
          · exact k104 τ (fun c hc => hτ c (by omega))
          · obtain ⟨t, t1, t2⟩ := isB_ne.mp (qeqF q5)
            have t2 : τ 3 g = nI t := t2
            iterate 1 (refine kX_one rfl ?_)
            refine kX_getN rfl rfl (kT_kn h.1) rfl ?_
            iterate 1 (refine kX_one rfl ?_)
            refine kX_getN rfl rfl (kT_kn h.1) rfl ?_
            iterate 2 (refine kX_one rfl ?_)
            refine kX_ialdV rfl rfl (by decide) (g) (by first | rfl | decide) (hg) (t2) ?_
            iterate 1 (refine kX_one rfl ?_)
            refine kX_getN rfl rfl (kT_kn h.1) rfl ?_
            refine kX_iastN rfl ((kT_k7 h.1).1) (by decide) (t) (by first | rfl | decide) (by omega) ?_
            exact k104 _ (fun c hc => by rw [up_ne (by omega)]; exact hτ c (by omega))
      · exact k31
set_option maxRecDepth 100000 in
set_option maxHeartbeats 4000000 in
theorem mc_takeAt (L : Nat) (xs : Nat → Int32) (d : Nat) (σ : kS) (K st n u i ln : Nat) (h : nB σ K st n u) (hR : nR σ K) (hln : σ K 7 = nI ln) (hl6 : ln ≤ 776) (hi : i < ln) : kXM kT L xs (d + 52) 53 [.ref K, .int (nI i)] σ (fun r σ' => (r = some (.int 0) ∨ r = some (.int 1)) ∧ nP σ σ' K) := by
  have hb := isK_b h.1
  obtain ⟨ln', l1, l2, l3⟩ := hR
  obtain rfl : ln = ln' := nI_inj (hln.symm.trans l2)
  have hR : nR σ K := ⟨ln, l1, l2, l3⟩
  obtain ⟨g, hg, hg2⟩ := l3 i hi
  have hz : nP σ σ K := nP_refl hR
  unfold kXM
  iterate 1 (refine kX_one rfl ?_)
  refine kX_getN rfl rfl (kT_kn h.1) rfl ?_
  iterate 1 (refine kX_one rfl ?_)
  refine kX_ialdV rfl (kT_k2 h.1 (Or.inl rfl)) (by decide) (i) (by first | rfl | decide) (by omega) (hg2) ?_
  iterate 2 (refine kX_one rfl ?_)
  refine kX_getN rfl rfl (kT_kn h.1) rfl ?_
  iterate 2 (refine kX_one rfl ?_)
  refine kX_ialdN rfl rfl (by decide) (g) (by first | rfl | decide) (hg) ?_
  iterate 2 (refine kX_one rfl ?_)
  refine kX_getN rfl rfl (kT_kn h.1) rfl ?_
  iterate 2 (refine kX_one rfl ?_)
  refine kX_ialdN rfl rfl (by decide) (g) (by first | rfl | decide) (hg) ?_
  iterate 4 (refine kX_one rfl ?_)
  refine kX_getN rfl rfl (kT_kn h.1) rfl ?_
  iterate 2 (refine kX_one rfl ?_)
  refine kX_ialdN rfl rfl (by decide) (g) (by first | rfl | decide) (hg) ?_
  by_cases hy : ∃ k, 4 ≤ k ∧ k < 9 ∧ σ 2 g = nI k
  · obtain ⟨k, hk4, hk, hk2⟩ := hy
    refine kX_top (hk2) ?_
    have : k = 4 ∨ k = 5 ∨ k = 6 ∨ k = 7 ∨ k = 8 := by omega
    rcases this with rfl | rfl | rfl | rfl | rfl
    · iterate 5 (refine kX_one rfl ?_)
      refine kX_cal (mc_add L xs (d + 49) σ K st n u (σ 3 g) _ _ h hR) rfl (Or.inr rfl) rfl (jcall_v rfl rfl rfl (kT_kn h.1) rfl rfl) rfl (fun r1 σ1 q1 => ?_)
      obtain ⟨hq, hP1⟩ := q1
      rcases hq with rfl | rfl
      · iterate 5 (refine kX_one rfl ?_)
        refine kX_cal (mc_add L xs (d + 49) σ1 K st n u (σ 4 g) _ _ (nB_P h hP1) hP1.2.2.2) rfl (Or.inr rfl) rfl (jcall_v rfl rfl rfl (kT_kn h.1) rfl rfl) rfl (fun r1 σ1 q1 => ?_)
        obtain ⟨hq, hP2⟩ := q1
        rcases hq with rfl | rfl
        · repeat refine kX_one rfl ?_
          refine kX_ret (i := .ireturn) (len := 1) rfl (Or.inr rfl) rfl (⟨Or.inl rfl, nP_trans hP1 hP2⟩)
        · repeat refine kX_one rfl ?_
          refine kX_ret (i := .ireturn) (len := 1) rfl (Or.inr rfl) rfl (⟨Or.inr rfl, nP_trans hP1 hP2⟩)
      · iterate 5 (refine kX_one rfl ?_)
        refine kX_cal (mc_add L xs (d + 49) σ1 K st n u (σ 4 g) _ _ (nB_P h hP1) hP1.2.2.2) rfl (Or.inr rfl) rfl (jcall_v rfl rfl rfl (kT_kn h.1) rfl rfl) rfl (fun r1 σ1 q1 => ?_)
        obtain ⟨hq, hP2⟩ := q1
        rcases hq with rfl | rfl
        · repeat refine kX_one rfl ?_
          refine kX_ret (i := .ireturn) (len := 1) rfl (Or.inr rfl) rfl (⟨Or.inr rfl, nP_trans hP1 hP2⟩)
        · repeat refine kX_one rfl ?_
          refine kX_ret (i := .ireturn) (len := 1) rfl (Or.inr rfl) rfl (⟨Or.inr rfl, nP_trans hP1 hP2⟩)
    · iterate 4 (refine kX_one rfl ?_)
      refine kX_cal (mc_canMake L xs K st n u 49 d 0 σ (σ 4 g) rfl h hR) rfl (Or.inr rfl) rfl (jcall_v rfl rfl rfl (kT_kn h.1) rfl rfl) rfl (fun r1 σ1 q1 => ?_)
      obtain ⟨hq, hP1⟩ := q1
      rcases hq with rfl | rfl
      · repeat refine kX_one rfl ?_
        refine kX_ret (i := .ireturn) (len := 1) rfl (Or.inr rfl) rfl (⟨Or.inl rfl, hP1⟩)
      · iterate 5 (refine kX_one rfl ?_)
        refine kX_cal (mc_add L xs (d + 49) σ1 K st n u (σ 3 g) _ _ (nB_P h hP1) hP1.2.2.2) rfl (Or.inr rfl) rfl (jcall_v rfl rfl rfl (kT_kn h.1) rfl rfl) rfl (fun r1 σ1 q1 => ?_)
        obtain ⟨hq, hP2⟩ := q1
        rcases hq with rfl | rfl
        · repeat refine kX_one rfl ?_
          refine kX_ret (i := .ireturn) (len := 1) rfl (Or.inr rfl) rfl (⟨Or.inl rfl, nP_trans hP1 hP2⟩)
        · repeat refine kX_one rfl ?_
          refine kX_ret (i := .ireturn) (len := 1) rfl (Or.inr rfl) rfl (⟨Or.inr rfl, nP_trans hP1 hP2⟩)
    · iterate 3 (refine kX_one rfl ?_)
      refine kX_cal (mc_hasPriv L xs (d + 50) σ K st n u (σ 4 g) h) rfl (Or.inr rfl) rfl (jcall_v rfl rfl rfl (kT_kn h.1) rfl rfl) rfl (fun r1 σ1 q1 => ?_)
      obtain ⟨hq, rfl⟩ := q1
      rcases hq with rfl | rfl
      · repeat refine kX_one rfl ?_
        refine kX_ret (i := .ireturn) (len := 1) rfl (Or.inr rfl) rfl (⟨Or.inl rfl, hz⟩)
      · iterate 5 (refine kX_one rfl ?_)
        refine kX_cal (mc_add L xs (d + 49) σ K st n u (σ 3 g) _ _ h hR) rfl (Or.inr rfl) rfl (jcall_v rfl rfl rfl (kT_kn h.1) rfl rfl) rfl (fun r1 σ1 q1 => ?_)
        obtain ⟨hq, hP2⟩ := q1
        rcases hq with rfl | rfl
        · repeat refine kX_one rfl ?_
          refine kX_ret (i := .ireturn) (len := 1) rfl (Or.inr rfl) rfl (⟨Or.inl rfl, hP2⟩)
        · repeat refine kX_one rfl ?_
          refine kX_ret (i := .ireturn) (len := 1) rfl (Or.inr rfl) rfl (⟨Or.inr rfl, hP2⟩)
    · repeat refine kX_one rfl ?_
      refine kX_ret (i := .ireturn) (len := 1) rfl (Or.inr rfl) rfl (⟨Or.inl rfl, hz⟩)
    · iterate 5 (refine kX_one rfl ?_)
      refine kX_cal (mc_add L xs (d + 49) σ K st n u (σ 3 g) _ _ h hR) rfl (Or.inr rfl) rfl (jcall_v rfl rfl rfl (kT_kn h.1) rfl rfl) rfl (fun r1 σ1 q1 => ?_)
      obtain ⟨hq, hP2⟩ := q1
      rcases hq with rfl | rfl
      · repeat refine kX_one rfl ?_
        refine kX_ret (i := .ireturn) (len := 1) rfl (Or.inr rfl) rfl (⟨Or.inl rfl, hP2⟩)
      · repeat refine kX_one rfl ?_
        refine kX_ret (i := .ireturn) (len := 1) rfl (Or.inr rfl) rfl (⟨Or.inr rfl, hP2⟩)
  · have hout : (σ 2 g).toInt < 4 ∨ 8 < (σ 2 g).toInt := by
      refine Classical.byContradiction (fun hh => hy ?_)
      have h0 : ¬ σ 2 g < 0 := fun z => by
        rw [Int32.lt_iff_toInt_lt] at z
        have : (0 : Int32).toInt = 0 := rfl
        omega
      obtain ⟨k, hk, hk2⟩ := nI_of h0
      rw [hk2, nI_toInt hk] at hh
      exact ⟨k, by omega, by omega, hk2⟩
    refine kX_tabO rfl hout rfl ?_
    repeat refine kX_one rfl ?_
    refine kX_ret (i := .ireturn) (len := 1) rfl (Or.inr rfl) rfl (⟨Or.inl rfl, hz⟩)
set_option maxRecDepth 100000 in
set_option maxHeartbeats 4000000 in
theorem mc_takeApart (L : Nat) (xs : Nat → Int32) (d : Nat) (σ : kS) (K st n u : Nat) (h : nB σ K st n u) (hR : nR σ K) : kXM kT L xs (d + 53) 52 [.ref K] σ (fun r σ' => r = none ∧ nP σ σ' K) := by
  unfold kXM
  have k64 : ∀ τ lv, nP σ τ K → nk lv = true → ([(0, .ref K)] : jL).map (fun q => jl lv q.1) = ([(0, Value.ref K)] : jL).map (fun q => some q.2) → kX kT L xs (d + 53) 52 64 lv [] τ (fun r σ' => r = none ∧ nP σ σ' K) := by
    intro τ lv hP hk hlv
    refine kX_lv _ hk rfl hlv ?_
    iterate 2 (refine kX_one rfl ?_)
    refine kX_putN rfl rfl (kT_kn h.1) rfl (rfl) rfl ?_
    refine kX_ret (i := .return_) (len := 1) rfl (Or.inr rfl) rfl ⟨rfl, nP_trans hP ⟨fun c hc => up_ne (by omega), up_ne (by omega), fun j j1 j2 => ?_, ?_⟩⟩
    · rw [up_eq]
      exact pk_un j2
    · obtain ⟨ln, l1, l2, l3⟩ := hP.2.2.2
      refine ⟨ln, l1, ?_, ?_⟩
      · rw [up_eq]
        exact l2
      · rw [up_ne (by omega)]
        exact l3
  have inner : ∀ p : Nat, p ≤ 776 → (∀ τ v, (v = 0 ∨ v = 1) → nP σ τ K → kX kT L xs (d + 53) 52 58 [(1, .int v), (2, .int (nI p)), (0, .ref K)] [] τ (fun r σ' => r = none ∧ nP σ σ' K)) → ∀ q : Nat × Int32 × kS, (q.1 ≤ 776 ∧ (q.2.1 = 0 ∨ q.2.1 = 1) ∧ nP σ q.2.2 K) → kX kT L xs (d + 53) 52 19 [(3, .int (nI q.1)), (1, .int q.2.1), (2, .int (nI p)), (0, .ref K)] [] q.2.2 (fun r σ' => r = none ∧ nP σ σ' K) := by
    intro p hp he
    refine kX_while (fun q : Nat × Int32 × kS => [(3, .int (nI q.1)), (1, .int q.2.1), (2, .int (nI p)), (0, .ref K)]) (fun q => q.2.2) _ (fun q => 776 - q.1) ?_
    rintro ⟨i, v, τ⟩ ⟨i1, i2, i3⟩ ih
    dsimp only at i1 i2 i3 ih ⊢
    obtain ⟨ln, l1, l2, l3⟩ := i3.2.2.2
    iterate 2 (refine kX_one rfl ?_)
    refine kX_getN rfl rfl (kT_kn h.1) rfl ?_
    refine kX_top (l2) ?_
    repeat refine kX_one rfl ?_
    refine kX_if (fun q => ?_) (fun q => ?_)
    · exact kX_lv _ rfl rfl rfl (he τ v i2 i3)
    · have q := qgeF q i ln
      iterate 2 (refine kX_one rfl ?_)
      repeat refine kX_one rfl ?_
      refine kX_if (fun q2 => ?_) (fun q2 => ?_)
      · exact kX_lv _ rfl rfl rfl (he τ v i2 i3)
      · have k51 : ∀ τ' v', (v' = 0 ∨ v' = 1) → nP σ τ' K → kX kT L xs (d + 53) 52 51 [(3, .int (nI i)), (1, .int v), (2, .int (nI p)), (0, .ref K)] [.int v'] τ' (fun r σ' => r = none ∧ nP σ σ' K) := by
          intro τ' v' x1 x2
          iterate 3 (refine kX_one rfl ?_)
          have := ih (i + 1, v', τ') ⟨by simp only; omega, x1, x2⟩ (by simp only; omega)
          dsimp only at this
          rw [← nI_1] at this
          exact kX_lv _ rfl rfl rfl this
        iterate 2 (refine kX_one rfl ?_)
        refine kX_cal (mc_takeAt L xs d τ K st n u i ln (nB_P h i3) i3.2.2.2 l2 l1 q) rfl (Or.inr rfl) rfl (jcall_v rfl rfl rfl (kT_kn h.1) rfl rfl) rfl (fun r1 σ1 q1 => ?_)
        obtain ⟨hq, hP1⟩ := q1
        rcases hq with rfl | rfl
        · iterate 2 (refine kX_one rfl ?_)
          rcases i2 with rfl | rfl
          · iterate 2 (refine kX_one rfl ?_)
            exact k51 σ1 0 (Or.inl rfl) (nP_trans i3 hP1)
          · iterate 3 (refine kX_one rfl ?_)
            exact k51 σ1 1 (Or.inr rfl) (nP_trans i3 hP1)
        · iterate 3 (refine kX_one rfl ?_)
          exact k51 σ1 1 (Or.inr rfl) (nP_trans i3 hP1)
  have outer : ∀ q : Nat × Int32 × kS, (q.1 ≤ 777 ∧ (q.2.1 = 0 ∨ q.2.1 = 1) ∧ nP σ q.2.2 K) → kX kT L xs (d + 53) 52 4 [(2, .int (nI q.1)), (1, .int q.2.1), (0, .ref K)] [] q.2.2 (fun r σ' => r = none ∧ nP σ σ' K) := by
    refine kX_while (fun q : Nat × Int32 × kS => [(2, .int (nI q.1)), (1, .int q.2.1), (0, .ref K)]) (fun q => q.2.2) _ (fun q => 777 - q.1) ?_
    rintro ⟨p, v, τ⟩ ⟨i1, i2, i3⟩ ih
    dsimp only at i1 i2 i3 ih ⊢
    iterate 2 (refine kX_one rfl ?_)
    repeat refine kX_one rfl ?_
    refine kX_if (fun q => ?_) (fun q => ?_)
    · exact k64 τ _ i3 rfl rfl
    · have q := qgtF q p 776
      iterate 1 (refine kX_one rfl ?_)
      repeat refine kX_one rfl ?_
      refine kX_if (fun q2 => ?_) (fun q2 => ?_)
      · exact k64 τ _ i3 rfl rfl
      · iterate 4 (refine kX_one rfl ?_)
        refine kX_lv _ rfl rfl rfl (inner p q (fun τ' v' x1 x2 => ?_) (0, 0, τ) ⟨Nat.zero_le _, Or.inl rfl, i3⟩)
        iterate 2 (refine kX_one rfl ?_)
        have := ih (p + 1, v', τ') ⟨by simp only; omega, x1, x2⟩ (by simp only; omega)
        dsimp only at this
        rw [← nI_1] at this
        exact kX_lv _ rfl rfl rfl this
  iterate 4 (refine kX_one rfl ?_)
  exact kX_lv _ rfl rfl rfl (outer (0, 1, σ) ⟨Nat.zero_le _, Or.inr rfl, nP_refl hR⟩)
end
section
/-! the class: start, find, findOrPut, groundOf -/
def nF (σ τ : kS) (K st : Nat) : Prop := (∀ c, c < K ∨ K + 9 ≤ c → c ≠ 2 → c ≠ 3 → c ≠ 4 → c ≠ 5 → c ≠ 6 → τ c = σ c) ∧ ∀ j, j < st ∨ st + 576 ≤ j → τ 2 j = σ 2 j ∧ τ 3 j = σ 3 j ∧ τ 4 j = σ 4 j ∧ τ 6 j = σ 6 j
theorem nF_refl (σ : kS) (K st : Nat) : nF σ σ K st := ⟨fun _ _ _ _ _ _ _ => rfl, fun _ _ => ⟨rfl, rfl, rfl, rfl⟩⟩
theorem nF_trans {σ τ ρ : kS} {K st : Nat} (h1 : nF σ τ K st) (h2 : nF τ ρ K st) : nF σ ρ K st := ⟨fun c a1 a2 a3 a4 a5 a6 => (h2.1 c a1 a2 a3 a4 a5 a6).trans (h1.1 c a1 a2 a3 a4 a5 a6), fun j hj => ⟨(h2.2 j hj).1.trans (h1.2 j hj).1, (h2.2 j hj).2.1.trans (h1.2 j hj).2.1, (h2.2 j hj).2.2.1.trans (h1.2 j hj).2.2.1, (h2.2 j hj).2.2.2.trans (h1.2 j hj).2.2.2⟩⟩
theorem nF_P {σ τ : kS} {K st : Nat} (hK : isK K st) (h : nP σ τ K) : nF σ τ K st := by
  have hb := isK_b hK
  refine ⟨fun c a1 _ _ _ _ _ => h.1 c a1, fun j _ => ?_⟩
  rw [h.1 2 (by omega), h.1 3 (by omega), h.1 4 (by omega), h.1 6 (by omega)]
  exact ⟨rfl, rfl, rfl, rfl⟩
theorem cT_nF {σ τ : kS} {K st n : Nat} (hK : isK K st) (hF : nF σ τ K st) (h : cT σ n) : cT τ n := by
  have hb := isK_b hK
  have hn := h.1
  refine cT_eq (by rw [hF.1 1 (by omega) (by decide) (by decide) (by decide) (by decide) (by decide)]) (hF.1 _ (by omega) (by decide) (by decide) (by decide) (by decide) (by decide)) (fun u hu => ?_) h
  obtain ⟨a1, a2, a3, a4⟩ := hF.2 u (by omega)
  rw [hF.1 8 (by omega) (by decide) (by decide) (by decide) (by decide) (by decide), hF.1 12 (by omega) (by decide) (by decide) (by decide) (by decide) (by decide)]
  exact ⟨a1, a2, a3, rfl, rfl, a4⟩
/-- an intruder's stretch, as it grows -/
def nW (σ : kS) (K st n u : Nat) : Prop := nB σ K st n u ∧ nR σ K ∧ cKe σ K st u ∧ cKg σ n st u ∧ cT σ n
theorem nW_P {σ τ : kS} {K st n u : Nat} (h : nW σ K st n u) (hP : nP σ τ K) : nW τ K st n u := by
  obtain ⟨h1, h2, h3, h4, h5⟩ := h
  have hb := isK_b h1.1
  have e : ∀ c, c < K ∨ K + 9 ≤ c → τ c = σ c := hP.1
  refine ⟨nB_P h1 hP, hP.2.2.2, ?_, ?_, cT_nF h1.1 (nF_P h1.1 hP) h5⟩
  · unfold cKe
    rw [hP.2.1, e 2 (by omega), e 3 (by omega), e 4 (by omega), e 6 (by omega)]
    exact h3
  · exact cKg_eq (fun z _ => by rw [e 8 (by omega)]) (fun g _ _ => by rw [e 3 (by omega), e 4 (by omega)]; exact ⟨rfl, rfl⟩) h4
set_option maxRecDepth 100000 in
set_option maxHeartbeats 4000000 in
theorem mc_kStart (L : Nat) (xs : Nat → Int32) (d : Nat) (σ : kS) (K st n u : Nat) (h : nB σ K st n u) (he : cKe σ K st u) : kXM kT L xs (d + 2) 45 [.ref K] σ (fun r σ' => r = none ∧ (∀ c, c < K ∨ K + 2 ≤ c → σ' c = σ c) ∧ σ' K 1 = nI st ∧ σ' K 3 = 0 ∧ σ' K 7 = 0 ∧ ∀ s, s < 256 → σ' (K + 1) s = -1) := by
  obtain ⟨h1, h2, h3, h4, h5, h6⟩ := h
  have hb := isK_b h1
  unfold kXM
  have k60 : ∀ HD, (∀ s, s < 256 → HD s = -1) → ∀ g, kX kT L xs (d + 2) 45 60 [(1, .int (nI g)), (0, .ref K)] [] (va_up σ (K + 1) HD) (fun r σ' => r = none ∧ (∀ c, c < K ∨ K + 2 ≤ c → σ' c = σ c) ∧ σ' K 1 = nI st ∧ σ' K 3 = 0 ∧ σ' K 7 = 0 ∧ ∀ s, s < 256 → σ' (K + 1) s = -1) := by
    intro HD hHD g
    iterate 2 (refine kX_one rfl ?_)
    refine kX_putN rfl rfl (kT_kn h1) rfl (rfl) rfl ?_
    iterate 2 (refine kX_one rfl ?_)
    refine kX_putN rfl rfl (kT_kn h1) rfl (rfl) rfl ?_
    iterate 2 (refine kX_one rfl ?_)
    refine kX_getN rfl rfl (kT_kn h1) rfl ?_
    iterate 2 (refine kX_one rfl ?_)
    refine kX_putN rfl rfl (kT_kn h1) rfl (rfl) rfl ?_
    iterate 2 (refine kX_one rfl ?_)
    refine kX_putN rfl rfl (kT_kn h1) rfl (rfl) rfl ?_
    refine kX_ret (i := .return_) (len := 1) rfl (Or.inr rfl) rfl ⟨rfl, fun c hc => ?_, ?_, ?_, ?_, fun s hs => ?_⟩
    · rw [up_ne (by omega), up_ne (by omega), up_ne (by omega), up_ne (by omega), up_ne (by omega)]
    · simp only [up_eq]
      rw [up_ne (by omega)]
      exact h5
    · simp only [up_eq]
      rfl
    · simp only [up_eq]
      rfl
    · rw [up_ne (by omega), up_ne (by omega), up_ne (by omega), up_ne (by omega), up_eq]
      exact hHD s hs
  have loop : ∀ q : Nat × (Nat → Int32), (st ≤ q.1 ∧ q.1 ≤ st + u ∧ ∀ s, s < 256 → q.2 s = -1 ∨ ∃ g', q.1 ≤ g' ∧ g' < st + u ∧ q.2 s = nI g' ∧ cSl (σ 2 g') (σ 3 g') (σ 4 g') = nI s) → kX kT L xs (d + 2) 45 5 [(1, .int (nI q.1)), (0, .ref K)] [] (va_up σ (K + 1) q.2) (fun r σ' => r = none ∧ (∀ c, c < K ∨ K + 2 ≤ c → σ' c = σ c) ∧ σ' K 1 = nI st ∧ σ' K 3 = 0 ∧ σ' K 7 = 0 ∧ ∀ s, s < 256 → σ' (K + 1) s = -1) := by
    refine kX_while (fun q : Nat × (Nat → Int32) => [(1, .int (nI q.1)), (0, .ref K)]) (fun q => va_up σ (K + 1) q.2) _ (fun q => st + u - q.1) ?_
    rintro ⟨g, HD⟩ ⟨i1, i2, i3⟩ ih
    dsimp only at i1 i2 i3 ih ⊢
    iterate 2 (refine kX_one rfl ?_)
    refine kX_getN rfl rfl (kT_kn h1) rfl ?_
    refine kX_top (y := nI st) (by rw [up_ne (by omega)]; exact h5) ?_
    iterate 1 (refine kX_one rfl ?_)
    refine kX_getN rfl rfl (kT_kn h1) rfl ?_
    refine kX_top (y := nI u) (by rw [up_ne (by omega)]; exact h6) ?_
    iterate 1 (refine kX_one rfl ?_)
    refine kX_top (nI_add st u) ?_
    repeat refine kX_one rfl ?_
    refine kX_if (fun q => ?_) (fun q => ?_)
    · have q := qge q g (st + u)
      refine k60 HD (fun s hs => ?_) g
      rcases i3 s hs with e | ⟨g', g1, g2, -⟩
      · exact e
      · omega
    · have q := qgeF q g (st + u)
      have hg : g < 1928 := by omega
      obtain ⟨sl, s1, s2⟩ := cSl_lt (σ 2 g) (σ 3 g) (σ 4 g)
      have eT : ∀ c, c < 13 → va_up σ (K + 1) HD c = σ c := fun c hc => up_ne (by omega)
      iterate 1 (refine kX_one rfl ?_)
      refine kX_getN rfl rfl (kT_kn h1) rfl ?_
      iterate 1 (refine kX_one rfl ?_)
      refine kX_getN rfl rfl (kT_kn h1) rfl ?_
      iterate 2 (refine kX_one rfl ?_)
      refine kX_ialdV rfl rfl (by decide) (g) (by first | rfl | decide) (hg) (congrFun (eT _ (by decide)) g) ?_
      iterate 1 (refine kX_one rfl ?_)
      refine kX_getN rfl rfl (kT_kn h1) rfl ?_
      iterate 2 (refine kX_one rfl ?_)
      refine kX_ialdV rfl rfl (by decide) (g) (by first | rfl | decide) (hg) (congrFun (eT _ (by decide)) g) ?_
      iterate 1 (refine kX_one rfl ?_)
      refine kX_getN rfl rfl (kT_kn h1) rfl ?_
      iterate 2 (refine kX_one rfl ?_)
      refine kX_ialdV rfl rfl (by decide) (g) (by first | rfl | decide) (hg) (congrFun (eT _ (by decide)) g) ?_
      refine kX_cal (mc_slot L xs d _ (σ 2 g) (σ 3 g) (σ 4 g)) rfl (Or.inr rfl) rfl rfl rfl (fun r1 σ1 q1 => ?_)
      obtain ⟨rfl, rfl⟩ := q1
      iterate 1 (refine kX_one rfl ?_)
      refine kX_iastN rfl (kT_k1 h1) (by decide) (sl) (s2) (s1) ?_
      iterate 2 (refine kX_one rfl ?_)
      have := ih (g + 1, upd HD sl (-1)) ⟨by simp only; omega, q, fun s hs => by
        simp only
        by_cases e : s = sl
        · subst e
          exact Or.inl pk_us
        · rw [pk_un e]
          rcases i3 s hs with x | ⟨g', g1, g2, g3, g4⟩
          · exact Or.inl x
          · refine Or.inr ⟨g', ?_, g2, g3, g4⟩
            have : g' ≠ g := fun z => by
              subst z
              exact e (nI_inj (g4.symm.trans s2))
            omega⟩ (by simp only; omega)
      dsimp only at this
      rw [← nI_1] at this
      refine kX_to _ _ rfl rfl rfl ?_ this
      rw [up_eq, kup_up]
      rfl
  iterate 1 (refine kX_one rfl ?_)
  refine kX_getN rfl rfl (kT_kn h1) rfl ?_
  refine kX_top (h5) ?_
  iterate 1 (refine kX_one rfl ?_)
  have := loop (st, σ (K + 1)) ⟨Nat.le_refl _, by simp only; omega, fun s hs => ?_⟩
  · dsimp only at this
    rw [kup_self] at this
    exact kX_lv _ rfl rfl rfl this
  · exact he.1 s hs
set_option maxRecDepth 100000 in
set_option maxHeartbeats 4000000 in
theorem mc_kFind (L : Nat) (xs : Nat → Int32) (d : Nat) (σ : kS) (K st n u : Nat) (w x y : Int32) (h : nB σ K st n u) (he : cKe σ K st u) (hT : cT σ n) : kXM kT L xs (d + 2) 48 [.ref K, .int w, .int x, .int y] σ (fun r σ' => (r = some (.int (-1)) ∨ (∃ t, t < n ∧ r = some (.int (nI t)) ∧ σ 2 t = w ∧ σ 3 t = x ∧ σ 4 t = y) ∨ ∃ g, st ≤ g ∧ g < st + u ∧ r = some (.int (nI g))) ∧ σ = σ') := by
  have hb := isK_b h.1
  have hn := hT.1
  have hu := h.2.2.1
  unfold kXM
  iterate 3 (refine kX_one rfl ?_)
  refine kX_cal (mc_slot L xs d σ w x y) rfl (Or.inr rfl) rfl rfl rfl (fun r1 σ1 q1 => ?_)
  obtain ⟨rfl, rfl⟩ := q1
  obtain ⟨sl, s1, s2⟩ := cSl_lt w x y
  iterate 2 (refine kX_one rfl ?_)
  refine kX_getN rfl rfl (kT_kn h.1) rfl ?_
  iterate 1 (refine kX_one rfl ?_)
  refine kX_getN rfl rfl (kT_kn h.1) rfl ?_
  iterate 2 (refine kX_one rfl ?_)
  refine kX_ialdN rfl rfl (by decide) (sl) (s2) (s1) ?_
  iterate 3 (refine kX_one rfl ?_)
  refine kX_cal (mc_findFrom L xs d σ (fun t => t < n ∧ 4 ≤ fN (σ 2 t)) (σ 7 sl) w x y (fun t ht => by omega) (fun t ht => ?_) ?_) rfl (Or.inr rfl) rfl rfl rfl (fun r1 σ1 q1 => ?_)
  · rcases (hT.2.2.2 t ht.1).2.2.2.2.2.2.2.2 ht.2 with q | ⟨u, u1, u2, u3⟩
    · exact Or.inl q
    · exact Or.inr ⟨u, ⟨by omega, u3⟩, u2⟩
  · rcases hT.2.2.1 sl s1 with q | ⟨u, u1, u2, u3⟩
    · exact Or.inl q
    · exact Or.inr ⟨u, ⟨u1, u3⟩, u2⟩
  · obtain ⟨hq, rfl⟩ := q1
    rcases hq with rfl | ⟨t, ⟨t1, -⟩, rfl, t2⟩
    · iterate 5 (refine kX_one rfl ?_)
      refine kX_getN rfl rfl (kT_kn h.1) rfl ?_
      iterate 1 (refine kX_one rfl ?_)
      refine kX_getN rfl rfl (kT_kn h.1) rfl ?_
      iterate 1 (refine kX_one rfl ?_)
      refine kX_ialdN rfl (kT_k1 h.1) (by decide) (sl) (s2) (s1) ?_
      iterate 3 (refine kX_one rfl ?_)
      refine kX_cal (mc_findFrom L xs d σ (fun g => st ≤ g ∧ g < st + u) (σ (K + 1) sl) w x y (fun t ht => by omega) (fun t ht => ?_) ?_) rfl (Or.inr rfl) rfl rfl rfl (fun r1 σ1 q1 => ?_)
      · rcases (he.2 t ht.1 ht.2).1 with q | ⟨g', g1, g2, g3⟩
        · exact Or.inl q
        · exact Or.inr ⟨g', ⟨g1, g2⟩, g3⟩
      · rcases he.1 sl s1 with q | ⟨g', g1, g2, g3, -⟩
        · exact Or.inl q
        · exact Or.inr ⟨g', ⟨g1, g2⟩, g3⟩
      · obtain ⟨hq, rfl⟩ := q1
        rcases hq with rfl | ⟨g, ⟨g1, g2⟩, rfl, -⟩
        · refine kX_ret (i := .ireturn) (len := 1) rfl (Or.inr rfl) rfl (⟨Or.inl rfl, rfl⟩)
        · refine kX_ret (i := .ireturn) (len := 1) rfl (Or.inr rfl) rfl (⟨Or.inr (Or.inr ⟨g, g1, g2, rfl⟩), rfl⟩)
    · iterate 3 (refine kX_one rfl ?_)
      repeat refine kX_one rfl ?_
      refine kX_if (fun q => ?_) (fun q => ?_)
      · exact absurd (qeq q) (nI_m1 (by omega))
      · repeat refine kX_one rfl ?_
        refine kX_ret (i := .ireturn) (len := 1) rfl (Or.inr rfl) rfl (⟨Or.inr (Or.inl ⟨t, t1, rfl, t2⟩), rfl⟩)
end
section
/-! the class: findOrPut, groundOf -/
theorem cKc_G {σ : kS} {n t : Nat} {c : Int32} (hn : n ≤ 200) (ht : t ≤ n) (h : cKc σ n c) : cG σ t c := by
  intro z z1 z2
  rcases h with q | ⟨z', a1, a2, a3⟩ | ⟨z', a1, a2, a3⟩
  · exact absurd (z2.symm.trans q) (nI_m1 (by omega))
  · obtain rfl : z = z' := nI_inj (z2.symm.trans a2)
    exact a3
  · have := nI_inj (z2.symm.trans a3)
    omega
/-- what findOrPut and groundOf answer -/
def fpP (σ τ : kS) (K st n u : Nat) (r : Option Value) : Prop := ∃ u' v, u ≤ u' ∧ r = some (.int v) ∧ cKc σ n v ∧ nF σ τ K st ∧ nW τ K st n u'
def fpS (σ : kS) (K g sl : Nat) (w x y z : Int32) (u : Nat) : kS := va_up (va_up (va_up (va_up (va_up (va_up (va_up σ 2 (upd (σ 2) g w)) 3 (upd (σ 3) g x)) 4 (upd (σ 4) g y)) 5 (upd (σ 5) g z)) 6 (upd (σ 6) g (σ (K + 1) sl))) (K + 1) (upd (σ (K + 1)) sl (nI g))) K (upd (σ K) 3 (nI (u + 1)))
theorem fpS_ok {σ : kS} {K st n u sl k : Nat} {x y z : Int32} (h : nW σ K st n u) (hu : u < 576) (hk : 4 ≤ k) (hk9 : k ≤ 9) (hx : cKc σ n x) (hy : cKc σ n y) (hsl : sl < 256) (hs : cSl (nI k) x y = nI sl) : nF σ (fpS σ K (st + u) sl (nI k) x y z u) K st ∧ nW (fpS σ K (st + u) sl (nI k) x y z u) K st n (u + 1) := by
  obtain ⟨⟨h1, h2, h3, h4, h5, h6⟩, hR, he, hg, hT⟩ := h
  have hb := isK_b h1
  have eK : fpS σ K (st + u) sl (nI k) x y z u K = upd (σ K) 3 (nI (u + 1)) := up_eq
  have eH : fpS σ K (st + u) sl (nI k) x y z u (K + 1) = upd (σ (K + 1)) sl (nI (st + u)) := by
    unfold fpS
    rw [up_ne (by omega), up_eq]
  have e2 : fpS σ K (st + u) sl (nI k) x y z u 2 = upd (σ 2) (st + u) (nI k) := by
    unfold fpS
    rw [up_ne (by omega), up_ne (by omega)]
    rfl
  have e3 : fpS σ K (st + u) sl (nI k) x y z u 3 = upd (σ 3) (st + u) x := by
    unfold fpS
    rw [up_ne (by omega), up_ne (by omega)]
    rfl
  have e4 : fpS σ K (st + u) sl (nI k) x y z u 4 = upd (σ 4) (st + u) y := by
    unfold fpS
    rw [up_ne (by omega), up_ne (by omega)]
    rfl
  have e6 : fpS σ K (st + u) sl (nI k) x y z u 6 = upd (σ 6) (st + u) (σ (K + 1) sl) := by
    unfold fpS
    rw [up_ne (by omega), up_ne (by omega)]
    rfl
  have eo : ∀ c, c ≠ K → c ≠ K + 1 → c ≠ 2 → c ≠ 3 → c ≠ 4 → c ≠ 5 → c ≠ 6 → fpS σ K (st + u) sl (nI k) x y z u c = σ c := fun c a0 a1 a2 a3 a4 a5 a6 => by
    unfold fpS
    rw [up_ne a0, up_ne a1, up_ne a6, up_ne a5, up_ne a4, up_ne a3, up_ne a2]
  generalize fpS σ K (st + u) sl (nI k) x y z u = τ at *
  have hF : nF σ τ K st := by
    refine ⟨fun c a1 a2 a3 a4 a5 a6 => eo c (by omega) (by omega) a2 a3 a4 a5 a6, fun j hj => ?_⟩
    rw [e2, e3, e4, e6, pk_un (by omega), pk_un (by omega), pk_un (by omega), pk_un (by omega)]
    exact ⟨rfl, rfl, rfl, rfl⟩
  have egr : ∀ z', τ 8 z' = σ 8 z' := fun z' => by rw [eo _ (by omega) (by omega) (by decide) (by decide) (by decide) (by decide) (by decide)]
  have hgc : ∀ c, cKc σ n c → cKc τ n c := fun c hc => by
    rcases hc with q | ⟨z', z1, z2, z3⟩ | q
    · exact Or.inl q
    · exact Or.inr (Or.inl ⟨z', z1, z2, (egr z').trans z3⟩)
    · exact Or.inr (Or.inr q)
  refine ⟨hF, ⟨h1, h2, by omega, ?_, ?_, ?_⟩, ?_, ⟨fun s hs' => ?_, fun g g1 g2 => ?_⟩, fun g g1 g2 => ?_, cT_nF h1 hF hT⟩
  · rw [eo 1 (by omega) (by omega) (by decide) (by decide) (by decide) (by decide) (by decide)]
    exact h4
  · rw [eK]
    exact h5
  · rw [eK]
    exact pk_us
  · obtain ⟨ln, l1, l2, l3⟩ := hR
    refine ⟨ln, l1, ?_, ?_⟩
    · rw [eK]
      exact l2
    · rw [eo (K + 2) (by omega) (by omega) (by omega) (by omega) (by omega) (by omega) (by omega)]
      exact l3
  · rw [eH, e2, e3, e4]
    by_cases e : s = sl
    · subst e
      refine Or.inr ⟨st + u, by omega, by omega, pk_us, ?_⟩
      rw [pk_us, pk_us, pk_us]
      exact hs
    · rw [pk_un e]
      rcases he.1 s hs' with q | ⟨g, g1, g2, g3, g4⟩
      · exact Or.inl q
      · refine Or.inr ⟨g, g1, by omega, g3, ?_⟩
        rw [pk_un (by omega), pk_un (by omega), pk_un (by omega)]
        exact g4
  · rw [e2, e6]
    by_cases e : g = st + u
    · subst e
      rw [pk_us, pk_us]
      refine ⟨?_, k, hk, hk9, rfl⟩
      rcases he.1 sl hsl with q | ⟨g, g1, g2, g3, -⟩
      · exact Or.inl q
      · exact Or.inr ⟨g, g1, by omega, g3⟩
    · rw [pk_un e, pk_un e]
      obtain ⟨a1, a2⟩ := he.2 g g1 (by omega)
      refine ⟨?_, a2⟩
      rcases a1 with q | ⟨g', x1, x2, x3⟩
      · exact Or.inl q
      · exact Or.inr ⟨g', x1, by omega, x3⟩
  · rw [e3, e4]
    by_cases e : g = st + u
    · subst e
      rw [pk_us, pk_us]
      exact ⟨hgc x hx, hgc y hy⟩
    · rw [pk_un e, pk_un e]
      exact ⟨hgc _ (hg g g1 (by omega)).1, hgc _ (hg g g1 (by omega)).2⟩
set_option maxRecDepth 100000 in
set_option maxHeartbeats 4000000 in
theorem mc_findOrPut (L : Nat) (xs : Nat → Int32) (d : Nat) (σ : kS) (K st n u k : Nat) (x y : Int32) (h : nW σ K st n u) (hk : 4 ≤ k) (hk9 : k ≤ 9) (hx : cKc σ n x) (hy : cKc σ n y) : kXM kT L xs (d + 3) 49 [.ref K, .int (nI k), .int x, .int y] σ (fun r σ' => fpP σ σ' K st n u r) := by
  have h0 := h
  obtain ⟨hB, hR, he, hg, hT⟩ := h
  have hb := isK_b hB.1
  have hn := hT.1
  have hu := hB.2.2.1
  unfold kXM
  have k33 : ∀ v, cKc σ n v → kX kT L xs (d + 3) 49 33 [(4, .int v), (0, .ref K), (1, .int (nI k)), (2, .int x), (3, .int y)] [] σ (fun r σ' => fpP σ σ' K st n u r) := by
    intro v hv
    repeat refine kX_one rfl ?_
    refine kX_ret (i := .ireturn) (len := 1) rfl (Or.inr rfl) rfl (⟨u, v, Nat.le_refl _, rfl, hv, nF_refl σ K st, h0⟩)
  iterate 4 (refine kX_one rfl ?_)
  refine kX_cal (mc_kFind L xs d σ K st n u (nI k) x y hB he hT) rfl (Or.inr rfl) rfl (jcall_v rfl rfl rfl (kT_kn hB.1) rfl rfl) rfl (fun r1 σ1 q1 => ?_)
  obtain ⟨hq, rfl⟩ := q1
  rcases hq with rfl | ⟨t, t1, rfl, t2, t3, t4⟩ | ⟨g, g1, g2, rfl⟩
  · iterate 5 (refine kX_one rfl ?_)
    refine kX_getN rfl rfl (kT_kn hB.1) rfl ?_
    refine kX_top (hB.2.2.2.2.2) ?_
    iterate 1 (refine kX_one rfl ?_)
    repeat refine kX_one rfl ?_
    refine kX_if (fun q => ?_) (fun q => ?_)
    · exact kX_lv _ rfl rfl rfl (k33 _ (Or.inl rfl))
    · have q := qgeF q u 576
      iterate 2 (refine kX_one rfl ?_)
      refine kX_cal (mc_kHas L xs (d + 1) σ K st n u x hB) rfl (Or.inr rfl) rfl (jcall_v rfl rfl rfl (kT_kn hB.1) rfl rfl) rfl (fun r1 σ1 q1 => ?_)
      obtain ⟨rfl, rfl⟩ := q1
      repeat refine kX_one rfl ?_
      refine kX_if (fun q2 => ?_) (fun q2 => ?_)
      · obtain ⟨gx, hgx, rfl⟩ := nH_lt hn hb.2.2.2 hu (isB_ne.mp (qne q2))
        obtain ⟨sl, s1, s2⟩ := cSl_lt (nI k) (nI gx) y
        have hgl : st + u < 1928 := by omega
        iterate 1 (refine kX_one rfl ?_)
        refine kX_getN rfl rfl (kT_kn hB.1) rfl ?_
        refine kX_top (hB.2.2.2.2.1) ?_
        iterate 1 (refine kX_one rfl ?_)
        refine kX_getN rfl rfl (kT_kn hB.1) rfl ?_
        refine kX_top (hB.2.2.2.2.2) ?_
        iterate 1 (refine kX_one rfl ?_)
        refine kX_top (nI_add st u) ?_
        iterate 4 (refine kX_one rfl ?_)
        refine kX_cal (mc_slot L xs (d + 1) σ (nI k) (nI gx) y) rfl (Or.inr rfl) rfl rfl rfl (fun r1 σ1 q1 => ?_)
        obtain ⟨rfl, rfl⟩ := q1
        refine kX_top (s2) ?_
        iterate 2 (refine kX_one rfl ?_)
        refine kX_getN rfl rfl (kT_kn hB.1) rfl ?_
        iterate 3 (refine kX_one rfl ?_)
        refine kX_iastN rfl rfl (by decide) (st + u) (by first | rfl | decide) (hgl) ?_
        iterate 1 (refine kX_one rfl ?_)
        refine kX_getN rfl rfl (kT_kn hB.1) rfl ?_
        iterate 3 (refine kX_one rfl ?_)
        refine kX_iastN rfl rfl (by decide) (st + u) (by first | rfl | decide) (hgl) ?_
        iterate 1 (refine kX_one rfl ?_)
        refine kX_getN rfl rfl (kT_kn hB.1) rfl ?_
        iterate 3 (refine kX_one rfl ?_)
        refine kX_iastN rfl rfl (by decide) (st + u) (by first | rfl | decide) (hgl) ?_
        iterate 1 (refine kX_one rfl ?_)
        refine kX_getN rfl rfl (kT_kn hB.1) rfl ?_
        iterate 4 (refine kX_one rfl ?_)
        refine kX_getN rfl rfl (kT_kn hB.1) rfl ?_
        iterate 2 (refine kX_one rfl ?_)
        refine kX_ialdN rfl rfl (by decide) (gx) (by first | rfl | decide) (hgx) ?_
        iterate 3 (refine kX_one rfl ?_)
        have hB3 : nB (va_up (va_up (va_up σ 2 (upd (σ 2) (st + u) (nI k))) 3 (upd (σ 3) (st + u) (nI gx))) 4 (upd (σ 4) (st + u) y)) K st n u := by
          obtain ⟨a1, a2, a3, a4, a5, a6⟩ := hB
          refine ⟨a1, a2, a3, a4, ?_, ?_⟩
          · rw [up_ne (by omega), up_ne (by omega), up_ne (by omega)]
            exact a5
          · rw [up_ne (by omega), up_ne (by omega), up_ne (by omega)]
            exact a6
        refine kX_cal (mc_kHas L xs (d + 1) _ K st n u y hB3) rfl (Or.inr rfl) rfl (jcall_v rfl rfl rfl (kT_kn hB.1) rfl rfl) rfl (fun r1 σ1 q1 => ?_)
        obtain ⟨rfl, rfl⟩ := q1
        have k129 : ∀ z1 z2 : Int32, kX kT L xs (d + 3) 49 129 [(6, .int (nI sl)), (5, .int (nI (st + u))), (4, .int (-1)), (0, .ref K), (1, .int (nI k)), (2, .int (nI gx)), (3, .int y)] [.int z2, .int z1, .int (nI (st + u)), .ref 5] (va_up (va_up (va_up σ 2 (upd (σ 2) (st + u) (nI k))) 3 (upd (σ 3) (st + u) (nI gx))) 4 (upd (σ 4) (st + u) y)) (fun r σ' => fpP σ σ' K st n u r) := by
          intro z1 z2
          iterate 1 (refine kX_one rfl ?_)
          refine kX_iastN rfl rfl (by decide) (st + u) (by first | rfl | decide) (hgl) ?_
          iterate 1 (refine kX_one rfl ?_)
          refine kX_getN rfl rfl (kT_kn hB.1) rfl ?_
          iterate 3 (refine kX_one rfl ?_)
          refine kX_getN rfl rfl (kT_kn hB.1) rfl ?_
          iterate 1 (refine kX_one rfl ?_)
          refine kX_ialdV rfl (kT_k1 hB.1) (by decide) (sl) (by first | rfl | decide) (s1) (by rw [up_ne (by omega), up_ne (by omega), up_ne (by omega), up_ne (by omega)]) ?_
          refine kX_iastN rfl rfl (by decide) (st + u) (by first | rfl | decide) (hgl) ?_
          iterate 1 (refine kX_one rfl ?_)
          refine kX_getN rfl rfl (kT_kn hB.1) rfl ?_
          iterate 2 (refine kX_one rfl ?_)
          refine kX_iastN rfl (kT_k1 hB.1) (by decide) (sl) (by first | rfl | decide) (s1) ?_
          iterate 2 (refine kX_one rfl ?_)
          refine kX_getN rfl rfl (kT_kn hB.1) rfl ?_
          refine kX_top (y := nI u) (by rw [up_ne (by omega), up_ne (by omega), up_ne (by omega), up_ne (by omega), up_ne (by omega), up_ne (by omega)]; exact hB.2.2.2.2.2) ?_
          iterate 2 (refine kX_one rfl ?_)
          refine kX_putN rfl rfl (kT_kn hB.1) rfl (rfl) rfl ?_
          refine kX_st (fpS σ K (st + u) sl (nI k) (nI gx) y (z1 + z2) u) ?_ ?_
          · unfold fpS
            rw [← nI_1]
            congr 1
            · congr 1
              rw [up_ne (by omega), up_ne (by omega), up_ne (by omega), up_ne (by omega), up_ne (by omega)]
            · rw [up_ne (by omega), up_ne (by omega), up_ne (by omega), up_ne (by omega), up_ne (by omega), up_ne (by omega)]
              rfl
          iterate 1 (refine kX_one rfl ?_)
          have hok := fpS_ok (z := z1 + z2) h0 q hk hk9 hx hy s1 s2
          refine kX_ret (i := .ireturn) (len := 1) rfl (Or.inr rfl) rfl (⟨u + 1, nI (st + u), by omega, rfl, Or.inr (Or.inr ⟨st + u, by omega, by omega, rfl⟩), hok.1, hok.2⟩)
        repeat refine kX_one rfl ?_
        refine kX_if (fun q3 => ?_) (fun q3 => ?_)
        · iterate 1 (refine kX_one rfl ?_)
          exact kX_lv _ rfl rfl rfl (k129 _ _)
        · obtain ⟨gy, hgy, rfl⟩ := nH_lt hn hb.2.2.2 hu (isB_ne.mp (qeqF q3))
          iterate 1 (refine kX_one rfl ?_)
          refine kX_getN rfl rfl (kT_kn hB.1) rfl ?_
          iterate 2 (refine kX_one rfl ?_)
          refine kX_ialdN rfl rfl (by decide) (gy) (by first | rfl | decide) (hgy) ?_
          iterate 1 (refine kX_one rfl ?_)
          exact kX_lv _ rfl rfl rfl (k129 _ _)
      · exact kX_lv _ rfl rfl rfl (k33 _ (Or.inl rfl))
  · have hgd : σ 8 t = 1 := by
      have := (hT.2.2.2 t t1).2.2.2.2.2.1 (by rw [t2]; exact nI_ne (by omega))
      rw [this, t3, t4]
      exact ⟨cKc_G hn (by omega) hx, cKc_G hn (by omega) hy⟩
    iterate 3 (refine kX_one rfl ?_)
    repeat refine kX_one rfl ?_
    refine kX_if (fun q => ?_) (fun q => ?_)
    · exact kX_lv _ rfl rfl rfl (k33 (nI t) (Or.inr (Or.inl ⟨t, t1, rfl, hgd⟩)))
    · exact absurd (qneF q) (nI_m1 (by omega))
  · iterate 3 (refine kX_one rfl ?_)
    repeat refine kX_one rfl ?_
    refine kX_if (fun q => ?_) (fun q => ?_)
    · exact kX_lv _ rfl rfl rfl (k33 (nI g) (Or.inr (Or.inr ⟨g, by omega, by omega, rfl⟩)))
    · exact absurd (qneF q) (nI_m1 (by omega))
end
section
/-! the class: groundOf -/
theorem nF_gr {σ τ : kS} {K st : Nat} (hK : isK K st) (h : nF σ τ K st) : τ 8 = σ 8 := by
  have := isK_b hK
  exact h.1 _ (by omega) (by decide) (by decide) (by decide) (by decide) (by decide)
theorem cKc_F {σ τ : kS} {n : Nat} {c : Int32} (e : τ 8 = σ 8) : cKc τ n c ↔ cKc σ n c := by
  unfold cKc
  rw [e]
theorem gV_c {σ : kS} {n : Nat} {c : Int32} (h : gV σ n c) : cKc σ n c := by
  rcases h with q | q
  · exact Or.inl q
  · exact Or.inr (Or.inl q)
set_option maxRecDepth 100000 in
set_option maxHeartbeats 4000000 in
theorem mc_groundOf (L : Nat) (xs : Nat → Int32) (K st n A M vals : Nat) (g0 : Nat → Int32) (hA : kT[A]? = some (.inl (0, M, .inl g0))) (hM : M ≤ 100000) (hA2 : (A < K ∨ K + 9 ≤ A) ∧ 13 ≤ A) (hvl : vals + 6 ≤ M) : ∀ (m d dd u : Nat) (σ : kS) (x : Int32), dd + m = 49 → nW σ K st n u → (∀ p, p < 6 → gV σ n (σ A (vals + p))) → kXM kT L xs (d + m + 4) 50 [.ref K, .int x, .ref A, .int (nI vals), .int (nI dd)] σ (fun r σ' => fpP σ σ' K st n u r) := by
  intro m
  induction m with
  | zero =>
    intro d dd u σ x hdd h hv
    have hB := h.1
    have hT := h.2.2.2.2
    unfold kXM
    have k18 : kX kT L xs (d + 4) 50 18 (lv_args 0 [.ref K, .int x, .ref A, .int (nI vals), .int (nI dd)]) [] σ (fun r σ' => fpP σ σ' K st n u r) := by
      repeat refine kX_one rfl ?_
      refine kX_ret (i := .ireturn) (len := 1) rfl (Or.inr rfl) rfl (⟨u, -1, Nat.le_refl _, rfl, Or.inl rfl, nF_refl σ K st, h⟩)
    iterate 1 (refine kX_one rfl ?_)
    refine kX_getN rfl rfl (kT_kn hB.1) rfl ?_
    iterate 1 (refine kX_one rfl ?_)
    refine kX_cal (mc_has L xs (d + 2) σ n x hT.1 hT.2.1) rfl (Or.inr rfl) rfl rfl rfl (fun r1 σ1 q1 => ?_)
    obtain ⟨rfl, rfl⟩ := q1
    repeat refine kX_one rfl ?_
    refine kX_if (fun q => ?_) (fun q => ?_)
    · exact k18
    · iterate 2 (refine kX_one rfl ?_)
      repeat refine kX_one rfl ?_
      refine kX_if (fun q2 => ?_) (fun q2 => ?_)
      · have q2 := qle q2 dd 48
        omega
      · exact k18
  | succ m ih =>
    intro d dd u σ x hdd h hv
    have hB := h.1
    have hT := h.2.2.2.2
    have hn := hT.1
    have hb := isK_b hB.1
    unfold kXM
    have k18 : kX kT L xs (d + m + 5) 50 18 (lv_args 0 [.ref K, .int x, .ref A, .int (nI vals), .int (nI dd)]) [] σ (fun r σ' => fpP σ σ' K st n u r) := by
      repeat refine kX_one rfl ?_
      refine kX_ret (i := .ireturn) (len := 1) rfl (Or.inr rfl) rfl (⟨u, -1, Nat.le_refl _, rfl, Or.inl rfl, nF_refl σ K st, h⟩)
    iterate 1 (refine kX_one rfl ?_)
    refine kX_getN rfl rfl (kT_kn hB.1) rfl ?_
    iterate 1 (refine kX_one rfl ?_)
    refine kX_cal (mc_has L xs (d + m + 3) σ n x hn hT.2.1) rfl (Or.inr rfl) rfl rfl rfl (fun r1 σ1 q1 => ?_)
    obtain ⟨rfl, rfl⟩ := q1
    repeat refine kX_one rfl ?_
    refine kX_if (fun q => ?_) (fun q => ?_)
    · exact k18
    · obtain ⟨t, ht, rfl⟩ := isB_ne.mp (qeqF q)
      iterate 2 (refine kX_one rfl ?_)
      repeat refine kX_one rfl ?_
      refine kX_if (fun q2 => ?_) (fun q2 => ?_)
      · iterate 1 (refine kX_one rfl ?_)
        refine kX_getN rfl rfl (kT_kn hB.1) rfl ?_
        iterate 2 (refine kX_one rfl ?_)
        refine kX_baldN rfl rfl (by decide) (t) (by first | rfl | decide) (by omega) ?_
        repeat refine kX_one rfl ?_
        refine kX_if (fun q3 => ?_) (fun q3 => ?_)
        · have q3 : σ 8 t = 0 := qeq q3
          iterate 1 (refine kX_one rfl ?_)
          refine kX_getN rfl rfl (kT_kn hB.1) rfl ?_
          iterate 2 (refine kX_one rfl ?_)
          refine kX_ialdN rfl rfl (by decide) (t) (by first | rfl | decide) (by omega) ?_
          iterate 1 (refine kX_one rfl ?_)
          repeat refine kX_one rfl ?_
          refine kX_if (fun q4 => ?_) (fun q4 => ?_)
          · have q4 : σ 2 t ≠ 3 := qne q4
            have hrec : ∀ τ w u1, nF σ τ K st → nW τ K st n u1 → kXM kT L xs (d + m + 4) 50 [.ref K, .int w, .ref A, .int (nI vals), .int (nI dd + Int32.ofInt 1)] τ (fun r σ' => fpP τ σ' K st n u1 r) := fun τ w u1 hF hW => by
              have := ih d (dd + 1) u1 τ w (by omega) hW (fun p hp => by
                rw [hF.1 A hA2.1 (by omega) (by omega) (by omega) (by omega) (by omega)]
                exact gV_up (Nat.le_refl _) (fun z _ => by rw [nF_gr hB.1 hF]) (hv p hp))
              rw [← nI_1] at this
              exact this
            obtain ⟨⟨kk, k1, k2⟩, -⟩ := hT.2.2.2 t ht
            have hk4 : 4 ≤ kk := by
              have h3 : kk ≠ 3 := fun e => q4 (by rw [k2, e]; rfl)
              refine Nat.not_lt.mp (fun hh => ?_)
              obtain ⟨-, -, -, -, -, a6, a7, -⟩ := hT.2.2.2 t ht
              obtain ⟨f1, f2⟩ := a7 (by rw [k2, fN_nI (by omega)]; omega)
              have : σ 8 t = 1 := by
                rw [a6 (by rw [k2]; exact nI_ne h3), f1, f2]
                exact ⟨cG_m1 σ t (by omega), cG_m1 σ t (by omega)⟩
              rw [q3] at this
              exact absurd this (by decide)
            iterate 2 (refine kX_one rfl ?_)
            refine kX_getN rfl rfl (kT_kn hB.1) rfl ?_
            iterate 2 (refine kX_one rfl ?_)
            refine kX_ialdN rfl rfl (by decide) (t) (by first | rfl | decide) (by omega) ?_
            iterate 5 (refine kX_one rfl ?_)
            refine kX_cal (hrec σ (σ 3 t) u (nF_refl σ K st) h) rfl (Or.inr rfl) rfl (jcall_v rfl rfl rfl (kT_kn hB.1) rfl rfl) rfl (fun r1 σ1 q1 => ?_)
            obtain ⟨u1, v1, x1, rfl, x3, x4, x5⟩ := q1
            iterate 3 (refine kX_one rfl ?_)
            refine kX_getN rfl rfl (kT_kn hB.1) rfl ?_
            iterate 2 (refine kX_one rfl ?_)
            refine kX_ialdN rfl rfl (by decide) (t) (by first | rfl | decide) (by omega) ?_
            iterate 5 (refine kX_one rfl ?_)
            refine kX_cal (hrec σ1 (σ1 4 t) u1 x4 x5) rfl (Or.inr rfl) rfl (jcall_v rfl rfl rfl (kT_kn hB.1) rfl rfl) rfl (fun r1 σ2 q1 => ?_)
            obtain ⟨u2, v2, y1, rfl, y3, y4, y5⟩ := q1
            have hF2 := nF_trans x4 y4
            have hkd : σ1 2 t = nI kk := by
              rw [(x4.2 t (by omega)).1]
              exact k2
            iterate 3 (refine kX_one rfl ?_)
            refine kX_getN rfl rfl (kT_kn hB.1) rfl ?_
            iterate 2 (refine kX_one rfl ?_)
            refine kX_ialdV rfl rfl (by decide) (t) (rfl) (by omega) (((y4.2 t (by omega)).1.trans hkd)) ?_
            iterate 2 (refine kX_one rfl ?_)
            refine kX_cal (mc_findOrPut L xs (d + m + 1) _ K st n u2 kk v1 v2 y5 hk4 k1 ((cKc_F (nF_gr hB.1 hF2)).mpr x3) ((cKc_F (nF_gr hB.1 y4)).mpr y3)) rfl (Or.inr rfl) rfl (jcall_v rfl rfl rfl (kT_kn hB.1) rfl rfl) rfl (fun r1 σ1 q1 => ?_)
            obtain ⟨u3, v3, z1, rfl, z3, z4, z5⟩ := q1
            refine kX_ret (i := .ireturn) (len := 1) rfl (Or.inr rfl) rfl (⟨u3, v3, by omega, rfl, (cKc_F (nF_gr hB.1 hF2)).mp z3, nF_trans hF2 z4, z5⟩)
          · have q4 : σ 2 t = nI 3 := qneF q4
            obtain ⟨-, -, -, -, a5, -⟩ := hT.2.2.2 t ht
            obtain ⟨-, p, p1, p2⟩ := a5 q4
            iterate 3 (refine kX_one rfl ?_)
            refine kX_getN rfl rfl (kT_kn hB.1) rfl ?_
            iterate 2 (refine kX_one rfl ?_)
            refine kX_ialdV rfl rfl (by decide) (t) (by first | rfl | decide) (by omega) (p2) ?_
            iterate 1 (refine kX_one rfl ?_)
            refine kX_ialdN rfl hA hM (vals + p) (nI_add vals p) (by omega) ?_
            refine kX_ret (i := .ireturn) (len := 1) rfl (Or.inr rfl) rfl (⟨u, σ A (vals + p), Nat.le_refl _, rfl, gV_c (hv p p1), nF_refl σ K st, h⟩)
        · have q3 : σ 8 t ≠ 0 := qeqF q3
          have hg1 : σ 8 t = 1 := (cT_01 hT t ht).elim (fun z => absurd z q3) id
          repeat refine kX_one rfl ?_
          refine kX_ret (i := .ireturn) (len := 1) rfl (Or.inr rfl) rfl (⟨u, nI t, Nat.le_refl _, rfl, Or.inr (Or.inl ⟨t, ht, rfl, hg1⟩), nF_refl σ K st, h⟩)
      · exact k18
set_option maxRecDepth 100000 in
set_option maxHeartbeats 4000000 in
theorem mc_beginKn (L : Nat) (xs : Nat → Int32) (d : Nat) (σ : kS) (K st n u kn : Nat) (hB : nB σ K st n u) (he : cKe σ K st u) (hT : cT σ n) (hk : kn ≤ 20) (hkn : σ 13 10 = nI kn) : kXM kT L xs (d + 3) 21 [.ref 13, .ref K] σ (fun r σ' => r = none ∧ nF σ σ' K st ∧ nW σ' K st n 0) := by
  have hb := isK_b hB.1
  unfold kXM
  iterate 1 (refine kX_one rfl ?_)
  refine kX_cal (mc_kStart L xs d σ K st n u hB he) rfl (Or.inr rfl) rfl (jcall_v rfl rfl rfl (kT_kn hB.1) rfl rfl) rfl (fun r1 σ1 q1 => ?_)
  obtain ⟨rfl, g1, g2, g3, g4, g5⟩ := q1
  have hF1 : nF σ σ1 K st := by
    refine ⟨fun c a1 _ _ _ _ _ => g1 c (by omega), fun j _ => ?_⟩
    rw [g1 2 (by omega), g1 3 (by omega), g1 4 (by omega), g1 6 (by omega)]
    exact ⟨rfl, rfl, rfl, rfl⟩
  have hW1 : nW σ1 K st n 0 := ⟨⟨hB.1, hB.2.1, by omega, by rw [g1 1 (by omega)]; exact hT.2.1, g2, g3⟩, ⟨0, by omega, g4, fun i hi => absurd hi (Nat.not_lt_zero i)⟩, ⟨fun s hs => Or.inl (g5 s hs), fun g x1 x2 => by omega⟩, fun g x1 x2 => by omega, cT_nF hB.1 hF1 hT⟩
  have loop : ∀ q : Nat × kS, (q.1 ≤ kn ∧ nP σ1 q.2 K) → kX kT L xs (d + 3) 21 6 [(2, .int (nI q.1)), (0, .ref 13), (1, .ref K)] [] q.2 (fun r σ' => r = none ∧ nF σ σ' K st ∧ nW σ' K st n 0) := by
    refine kX_while (fun q : Nat × kS => [(2, .int (nI q.1)), (0, .ref 13), (1, .ref K)]) (fun q => q.2) _ (fun q => kn - q.1) ?_
    rintro ⟨i, τ⟩ ⟨i1, i2⟩ ih
    dsimp only at i1 i2 ih ⊢
    have e13 : τ 13 = σ 13 := (i2.1 13 (by omega)).trans (g1 13 (by omega))
    iterate 3 (refine kX_one rfl ?_)
    refine kX_top (y := nI kn) (by rw [e13]; exact hkn) ?_
    repeat refine kX_one rfl ?_
    refine kX_if (fun q => ?_) (fun q => ?_)
    · refine kX_ret (i := .return_) (len := 1) rfl (Or.inr rfl) rfl ⟨rfl, nF_trans hF1 (nF_P hB.1 i2), nW_P hW1 i2⟩
    · have q := qgeF q i kn
      iterate 4 (refine kX_one rfl ?_)
      refine kX_ialdN rfl rfl (by decide) (i) (by first | rfl | decide) (by omega) ?_
      iterate 2 (refine kX_one rfl ?_)
      refine kX_cal (mc_add L xs d τ K st n 0 _ _ _ (nW_P hW1 i2).1 i2.2.2.2) rfl (Or.inr rfl) rfl (jcall_v rfl rfl rfl (kT_kn hB.1) rfl rfl) rfl (fun r1 σ1 q1 => ?_)
      obtain ⟨hq, hP⟩ := q1
      rcases hq with rfl | rfl
      · iterate 3 (refine kX_one rfl ?_)
        have := ih (i + 1, σ1) ⟨q, nP_trans i2 hP⟩ (by simp only; omega)
        dsimp only at this
        rw [← nI_1] at this
        exact kX_lv _ rfl rfl rfl this
      · iterate 3 (refine kX_one rfl ?_)
        have := ih (i + 1, σ1) ⟨q, nP_trans i2 hP⟩ (by simp only; omega)
        dsimp only at this
        rw [← nI_1] at this
        exact kX_lv _ rfl rfl rfl this
  iterate 2 (refine kX_one rfl ?_)
  exact kX_lv _ rfl rfl rfl (loop (0, σ1) ⟨Nat.zero_le _, nP_refl hW1.2.1⟩)
end
section
/-! the class: fillKnowledge -/
theorem cKw_n {σ : kS} {K st n : Nat} (hK : isK K st) (hT : cT σ n) (h : cKw σ K st) : ∃ u, nB σ K st n u ∧ nR σ K ∧ cKe σ K st u := by
  obtain ⟨h1, u, ln, h2, h3, h4, h5, h6, h7⟩ := h
  exact ⟨u, ⟨hK, hT.1, h2, hT.2.1, h1, h4⟩, ⟨ln, h3, h5, h6⟩, h7⟩
theorem nW_w {σ : kS} {K st n u : Nat} (h : nW σ K st n u) : cKw σ K st := by
  obtain ⟨⟨a1, a2, a3, a4, a5, a6⟩, ⟨ln, l1, l2, l3⟩, he, -, -⟩ := h
  exact ⟨a5, u, ln, a3, l1, a6, l2, l3, he⟩
theorem ix7w (base s : Nat) : nI base + nI s * (Int8.ofInt 7).toInt32 + Int32.ofInt 1 = nI (base + 7 * s + 1) := by
  rw [ix7, show Int32.ofInt 1 = nI 1 from rfl, nI_add, Nat.mul_comm s 7]
set_option maxRecDepth 100000 in
set_option maxHeartbeats 4000000 in
theorem mc_fill (L : Nat) (xs : Nat → Int32) (d : Nat) (σ : kS) (K st n R S A M base kn : Nat) (g0 : Nat → Int32) (hK : isK K st) (hT : cT σ n) (hRo : cRo σ n R) (hS4 : S ≤ 4) (hSc : σ 13 6 = nI S) (hSr : ∀ s, s < S → ∃ r, r < R ∧ σ 15 s = nI r) (hkn : kn ≤ 20) (hkn2 : σ 13 10 = nI kn) (hKw : cKw σ K st) (hA : kT[A]? = some (.inl (0, M, .inl g0))) (hM : M ≤ 100000) (hA2 : (A < K ∨ K + 9 ≤ A) ∧ 163 ≤ A) (hbm : base + 28 ≤ M) (hV : cV σ n S (σ A) base) : kXM kT L xs (d + 54) 22 [.ref 13, .ref K, .ref A, .int (nI base)] σ (fun r σ' => r = none ∧ nF σ σ' K st ∧ ∃ u, nW σ' K st n u) := by
  have hb := isK_b hK
  have hR4 := hRo.1
  have hn := hT.1
  obtain ⟨u0, hB0, hR0, he0⟩ := cKw_n hK hT hKw
  unfold kXM
  iterate 2 (refine kX_one rfl ?_)
  refine kX_cal (mc_beginKn L xs (d + 50) σ K st n u0 kn hB0 he0 hT hkn hkn2) rfl (Or.inr rfl) rfl rfl rfl (fun r1 ρ q1 => ?_)
  obtain ⟨rfl, hF0, hW0⟩ := q1
  have hcell : ∀ τ, nF σ τ K st → ∀ c, 13 ≤ c → c < K ∨ K + 9 ≤ c → τ c = σ c := fun τ hF c c1 c2 => hF.1 c c2 (by omega) (by omega) (by omega) (by omega) (by omega)
  have k124 : ∀ τ u, nF σ τ K st → nW τ K st n u → ∀ lv, nk lv = true → ([(1, .ref K)] : jL).map (fun q => jl lv q.1) = ([(1, Value.ref K)] : jL).map (fun q => some q.2) → kX kT L xs (d + 54) 22 124 lv [] τ (fun r σ' => r = none ∧ nF σ σ' K st ∧ ∃ u, nW σ' K st n u) := by
    intro τ u hF hW lv hk hlv
    refine kX_lv _ hk rfl hlv ?_
    iterate 1 (refine kX_one rfl ?_)
    refine kX_cal (mc_takeApart L xs d τ K st n u hW.1 hW.2.1) rfl (Or.inr rfl) rfl (jcall_v rfl rfl rfl (kT_kn hK) rfl rfl) rfl (fun r1 σ1 q1 => ?_)
    obtain ⟨rfl, hP⟩ := q1
    refine kX_ret (i := .return_) (len := 1) rfl (Or.inr rfl) rfl (⟨rfl, nF_trans hF (nF_P hK hP), u, nW_P hW hP⟩)
  have inner : ∀ s r e : Nat, s < S → r < R → e ≤ 6 → σ (23 + 35 * r) 5 = nI e → (∀ k, k < e → cE σ n (28 + 35 * r + 5 * k)) → ∀ done : Int32, (∀ τ u, nF σ τ K st → nW τ K st n u → kX kT L xs (d + 54) 22 118 [(4, .int (nI s)), (0, .ref 13), (1, .ref K), (2, .ref A), (3, .int (nI base))] [] τ (fun r σ' => r = none ∧ nF σ σ' K st ∧ ∃ u, nW σ' K st n u)) → ∀ q : Nat × kS × Nat, (q.1 ≤ e ∧ nF σ q.2.1 K st ∧ nW q.2.1 K st n q.2.2) → kX kT L xs (d + 54) 22 44 [(7, .int (nI q.1)), (6, .int done), (5, .ref (23 + 35 * r)), (4, .int (nI s)), (0, .ref 13), (1, .ref K), (2, .ref A), (3, .int (nI base))] [] q.2.1 (fun r σ' => r = none ∧ nF σ σ' K st ∧ ∃ u, nW σ' K st n u) := by
    intro s r e hs hr he6 hec hce done hgo
    have hr4 : r < 4 := by omega
    refine kX_while (fun q : Nat × kS × Nat => [(7, .int (nI q.1)), (6, .int done), (5, .ref (23 + 35 * r)), (4, .int (nI s)), (0, .ref 13), (1, .ref K), (2, .ref A), (3, .int (nI base))]) (fun q => q.2.1) _ (fun q => e - q.1) ?_
    rintro ⟨k, τ, u⟩ ⟨i1, i2, i3⟩ ih
    dsimp only at i1 i2 i3 ih ⊢
    iterate 2 (refine kX_one rfl ?_)
    repeat refine kX_one rfl ?_
    refine kX_if (fun q => ?_) (fun q => ?_)
    · exact kX_lv _ rfl rfl rfl (hgo τ u i2 i3)
    · iterate 2 (refine kX_one rfl ?_)
      refine kX_getN rfl rfl (kT_ro hr4) rfl ?_
      refine kX_top (y := nI e) (by rw [hcell τ i2 _ (by omega) (by omega)]; exact hec) ?_
      repeat refine kX_one rfl ?_
      refine kX_if (fun q2 => ?_) (fun q2 => ?_)
      · exact kX_lv _ rfl rfl rfl (hgo τ u i2 i3)
      · have q2 := qgeF q2 k e
        have hk6 : k < 6 := by omega
        have k112 : ∀ τ' u', nF σ τ' K st → nW τ' K st n u' → kX kT L xs (d + 54) 22 112 [(7, .int (nI k)), (6, .int done), (5, .ref (23 + 35 * r)), (4, .int (nI s)), (0, .ref 13), (1, .ref K), (2, .ref A), (3, .int (nI base))] [] τ' (fun r σ' => r = none ∧ nF σ σ' K st ∧ ∃ u, nW σ' K st n u) := by
          intro τ' u' x1 x2
          iterate 2 (refine kX_one rfl ?_)
          have := ih (k + 1, τ', u') ⟨q2, x1, x2⟩ (by simp only; omega)
          dsimp only at this
          rw [← nI_1] at this
          exact kX_lv _ rfl rfl rfl this
        obtain ⟨t, mm, qq, t1, -, -, t2, -⟩ := hce k q2
        have hv : ∀ p, p < 6 → gV τ n (τ A (base + 7 * s + 1 + p)) := fun p hp => by
          rw [hcell τ i2 A (by omega) hA2.1]
          exact gV_up (Nat.le_refl _) (fun z _ => by rw [nF_gr hK i2]) (hV s p hs hp)
        iterate 1 (refine kX_one rfl ?_)
        refine kX_getN rfl rfl (kT_ro hr4) rfl ?_
        iterate 1 (refine kX_one rfl ?_)
        refine kX_aaldN rfl (kT_re hr4) (by decide) (by decide) (by decide) (k) (by first | rfl | decide) (hk6) (ev_at hk6) ?_
        refine kX_getN rfl rfl (kT_ev hr4 hk6) rfl ?_
        repeat refine kX_one rfl ?_
        refine kX_if (fun q3 => ?_) (fun q3 => ?_)
        · exact k112 τ u i2 i3
        · iterate 2 (refine kX_one rfl ?_)
          refine kX_getN rfl rfl (kT_ro hr4) rfl ?_
          iterate 1 (refine kX_one rfl ?_)
          refine kX_aaldN rfl (kT_re hr4) (by decide) (by decide) (by decide) (k) (by first | rfl | decide) (hk6) (ev_at hk6) ?_
          refine kX_getN rfl rfl (kT_ev hr4 hk6) rfl ?_
          iterate 8 (refine kX_one rfl ?_)
          refine kX_top (y := nI (base + 7 * s + 1)) (ix7w base s) ?_
          iterate 1 (refine kX_one rfl ?_)
          refine kX_cal (mc_groundOf L xs K st n A M (base + 7 * s + 1) g0 hA hM (by omega) (by omega) 49 d 0 u τ _ rfl i3 hv) rfl (Or.inr rfl) rfl (jcall_v rfl rfl rfl (kT_kn hK) rfl rfl) rfl (fun r1 σ1 q1 => ?_)
          obtain ⟨u1, v1, x1, rfl, x3, x4, x5⟩ := q1
          iterate 5 (refine kX_one rfl ?_)
          refine kX_cal (mc_add L xs (d + 51) σ1 K st n u1 v1 _ _ x5.1 x5.2.1) rfl (Or.inr rfl) rfl (jcall_v rfl rfl rfl (kT_kn hK) rfl rfl) rfl (fun r1 σ2 q1 => ?_)
          obtain ⟨hq, hP⟩ := q1
          have hF2 := nF_trans i2 (nF_trans x4 (nF_P hK hP))
          rcases hq with rfl | rfl
          · iterate 1 (refine kX_one rfl ?_)
            exact kX_lv _ rfl rfl rfl (k112 σ2 u1 hF2 (nW_P x5 hP))
          · iterate 1 (refine kX_one rfl ?_)
            exact kX_lv _ rfl rfl rfl (k112 σ2 u1 hF2 (nW_P x5 hP))
  have outer : ∀ q : Nat × kS × Nat, (q.1 ≤ S ∧ nF σ q.2.1 K st ∧ nW q.2.1 K st n q.2.2) → kX kT L xs (d + 54) 22 8 [(4, .int (nI q.1)), (0, .ref 13), (1, .ref K), (2, .ref A), (3, .int (nI base))] [] q.2.1 (fun r σ' => r = none ∧ nF σ σ' K st ∧ ∃ u, nW σ' K st n u) := by
    refine kX_while (fun q : Nat × kS × Nat => [(4, .int (nI q.1)), (0, .ref 13), (1, .ref K), (2, .ref A), (3, .int (nI base))]) (fun q => q.2.1) _ (fun q => S - q.1) ?_
    rintro ⟨s, τ, u⟩ ⟨i1, i2, i3⟩ ih
    dsimp only at i1 i2 i3 ih ⊢
    iterate 3 (refine kX_one rfl ?_)
    refine kX_top (y := nI S) (by rw [hcell τ i2 13 (by omega) (by omega)]; exact hSc) ?_
    repeat refine kX_one rfl ?_
    refine kX_if (fun q => ?_) (fun q => ?_)
    · exact k124 τ u i2 i3 _ rfl rfl
    · have q := qgeF q s S
      obtain ⟨r, hr, hr2⟩ := hSr s q
      obtain ⟨v, e, v1, e1, v2, e2, so1, ev1⟩ := hRo.2.2 r hr
      have hr4 : r < 4 := by omega
      iterate 5 (refine kX_one rfl ?_)
      refine kX_ialdV rfl rfl (by decide) (s) (by first | rfl | decide) (by omega) ((congrFun (hcell τ i2 _ (by decide) (by omega)) s).trans hr2) ?_
      refine kX_aaldN rfl (rfl) (by decide) (by decide) (by decide) (r) (by first | rfl | decide) (hr4) (ro_at hr4) ?_
      iterate 5 (refine kX_one rfl ?_)
      refine kX_cal (mc_doneBy L xs (d + 52) τ A M base s g0 hA hM (by omega)) rfl (Or.inr rfl) rfl rfl rfl (fun r1 σ1 q1 => ?_)
      obtain ⟨rfl, rfl⟩ := q1
      iterate 3 (refine kX_one rfl ?_)
      refine kX_lv _ rfl rfl rfl (inner s r e q hr e1 e2 ev1 _ (fun τ' u' x1 x2 => ?_) (0, τ, u) ⟨Nat.zero_le _, i2, i3⟩)
      iterate 2 (refine kX_one rfl ?_)
      have := ih (s + 1, τ', u') ⟨q, x1, x2⟩ (by simp only; omega)
      dsimp only at this
      rw [← nI_1] at this
      exact kX_lv _ rfl rfl rfl this
  iterate 2 (refine kX_one rfl ?_)
  exact kX_lv _ rfl rfl rfl (outer (0, ρ, 0) ⟨Nat.zero_le _, hF0, hW0⟩)
set_option maxRecDepth 100000 in
set_option maxHeartbeats 4000000 in
theorem mc_due (L : Nat) (xs : Nat → Int32) (d : Nat) (σ : kS) (n R S A M base s : Nat) (g0 : Nat → Int32) (hRo : cRo σ n R) (hS4 : S ≤ 4) (hSr : ∀ s, s < S → ∃ r, r < R ∧ σ 15 s = nI r) (hs : s < S) (hA : kT[A]? = some (.inl (0, M, .inl g0))) (hM : M ≤ 100000) (hbm : base + 28 ≤ M) : kXM kT L xs (d + 2) 18 [.ref 13, .ref A, .int (nI base), .int (nI s)] σ (fun q σ' => (q = some .null ∨ ∃ r k, r < 4 ∧ k < 6 ∧ q = some (.ref (28 + 35 * r + 5 * k)) ∧ cE σ n (28 + 35 * r + 5 * k)) ∧ σ = σ') := by
  have hR4 := hRo.1
  obtain ⟨r, hr, hr2⟩ := hSr s hs
  obtain ⟨v, e, v1, e1, v2, e2, so1, ev1⟩ := hRo.2.2 r hr
  have hr4 : r < 4 := by omega
  unfold kXM
  iterate 5 (refine kX_one rfl ?_)
  refine kX_ialdV rfl rfl (by decide) (s) (by first | rfl | decide) (by omega) (hr2) ?_
  refine kX_aaldN rfl (rfl) (by decide) (by decide) (by decide) (r) (by first | rfl | decide) (hr4) (ro_at hr4) ?_
  iterate 5 (refine kX_one rfl ?_)
  refine kX_cal (mc_doneBy L xs d σ A M base s g0 hA hM (by omega)) rfl (Or.inr rfl) rfl rfl rfl (fun r1 σ1 q1 => ?_)
  obtain ⟨rfl, rfl⟩ := q1
  generalize σ A (base + 7 * s) = x
  have k48 : kX kT L xs (d + 2) 18 48 [(5, .int x), (4, .ref (23 + 35 * r)), (0, .ref 13), (1, .ref A), (2, .int (nI base)), (3, .int (nI s))] [] σ (fun q σ' => (q = some .null ∨ ∃ r k, r < 4 ∧ k < 6 ∧ q = some (.ref (28 + 35 * r + 5 * k)) ∧ cE σ n (28 + 35 * r + 5 * k)) ∧ σ = σ') := by
    iterate 1 (refine kX_one rfl ?_)
    refine kX_ret (i := .areturn) (len := 1) rfl (Or.inr rfl) rfl ⟨Or.inl rfl, rfl⟩
  iterate 2 (refine kX_one rfl ?_)
  repeat refine kX_one rfl ?_
  refine kX_if (fun q => ?_) (fun q => ?_)
  · exact kX_lv _ rfl rfl rfl k48
  · have q : ¬ x < 0 := of_decide_eq_false q
    obtain ⟨k, hk, rfl⟩ := nI_of q
    iterate 2 (refine kX_one rfl ?_)
    refine kX_getN rfl rfl (kT_ro hr4) rfl ?_
    refine kX_top (e2) ?_
    repeat refine kX_one rfl ?_
    refine kX_if (fun q2 => ?_) (fun q2 => ?_)
    · exact kX_lv _ rfl rfl rfl k48
    · have q2 := qgeF q2 k e
      have hk6 : k < 6 := by omega
      iterate 1 (refine kX_one rfl ?_)
      refine kX_getN rfl rfl (kT_ro hr4) rfl ?_
      iterate 1 (refine kX_one rfl ?_)
      refine kX_aaldN rfl (kT_re hr4) (by decide) (by decide) (by decide) (k) (by first | rfl | decide) (hk6) (ev_at hk6) ?_
      iterate 1 (refine kX_one rfl ?_)
      refine kX_ret (i := .areturn) (len := 1) rfl (Or.inr rfl) rfl ⟨Or.inr ⟨r, k, hr4, hk6, rfl, ev1 k q2⟩, rfl⟩
set_option maxRecDepth 100000 in
set_option maxHeartbeats 4000000 in
theorem mc_hasDoneAll (L : Nat) (xs : Nat → Int32) (d : Nat) (σ : kS) (n R S A M base s : Nat) (g0 : Nat → Int32) (hRo : cRo σ n R) (hS4 : S ≤ 4) (hSr : ∀ s, s < S → ∃ r, r < R ∧ σ 15 s = nI r) (hs : s < S) (hA : kT[A]? = some (.inl (0, M, .inl g0))) (hM : M ≤ 100000) (hbm : base + 28 ≤ M) : kXM kT L xs (d + 2) 19 [.ref 13, .ref A, .int (nI base), .int (nI s)] σ (fun q σ' => (q = some (.int 0) ∨ q = some (.int 1)) ∧ σ = σ') := by
  have hR4 := hRo.1
  obtain ⟨r, hr, hr2⟩ := hSr s hs
  have hr4 : r < 4 := by omega
  unfold kXM
  iterate 4 (refine kX_one rfl ?_)
  refine kX_cal (mc_doneBy L xs d σ A M base s g0 hA hM (by omega)) rfl (Or.inr rfl) rfl rfl rfl (fun r1 σ1 q1 => ?_)
  obtain ⟨rfl, rfl⟩ := q1
  iterate 5 (refine kX_one rfl ?_)
  refine kX_ialdV rfl rfl (by decide) (s) (by first | rfl | decide) (by omega) (hr2) ?_
  refine kX_aaldN rfl (rfl) (by decide) (by decide) (by decide) (r) (by first | rfl | decide) (hr4) (ro_at hr4) ?_
  refine kX_getN rfl rfl (kT_ro hr4) rfl ?_
  repeat refine kX_one rfl ?_
  refine kX_if (fun q => ?_) (fun q => ?_)
  · repeat refine kX_one rfl ?_
    refine kX_ret (i := .ireturn) (len := 1) rfl (Or.inr rfl) rfl (⟨Or.inl rfl, rfl⟩)
  · repeat refine kX_one rfl ?_
    refine kX_ret (i := .ireturn) (len := 1) rfl (Or.inr rfl) rfl (⟨Or.inr rfl, rfl⟩)
end
section
/-! the class: the run's intruder -/
theorem cKw_eq2 {σ τ : kS} {K st : Nat} (e0 : τ K = σ K) (e1 : τ (K + 1) = σ (K + 1)) (e2 : τ (K + 2) = σ (K + 2)) (e : ∀ g, st ≤ g → g < st + 576 → τ 2 g = σ 2 g ∧ τ 3 g = σ 3 g ∧ τ 4 g = σ 4 g ∧ τ 6 g = σ 6 g) (h : cKw σ K st) : cKw τ K st := by
  obtain ⟨h1, u, ln, h2, h3, h4, h5, h6, h7, h8⟩ := h
  refine ⟨by rw [e0]; exact h1, u, ln, h2, h3, by rw [e0]; exact h4, by rw [e0]; exact h5, by rw [e2]; exact h6, fun s hs => ?_, fun g g1 g2 => ?_⟩
  · rw [e1]
    rcases h7 s hs with q | ⟨g, q1, q2, q3, q4⟩
    · exact Or.inl q
    · refine Or.inr ⟨g, q1, q2, q3, ?_⟩
      rw [(e g q1 (by omega)).1, (e g q1 (by omega)).2.1, (e g q1 (by omega)).2.2.1]
      exact q4
  · rw [(e g g1 (by omega)).2.2.2, (e g g1 (by omega)).1]
    exact h8 g g1 g2
/-- the run's intruder has changed, and what he is gathered for -/
theorem cJ_in {σ τ : kS} {n R S C u : Nat} (h : cJ σ n R S C) (hF : nF (va_up (va_up σ 184 (τ 184)) 181 (τ 181)) τ 186 200) (hW : nW τ 186 200 n u) (h181 : ∀ j, j ≠ 9 → τ 181 j = σ 181 j) (hg : τ 181 9 = -1 ∨ ∃ g, g ≤ n ∧ τ 181 9 = nI g) : cJ τ n R S C := by
  obtain ⟨h1, h2, h3, h4, h5, h6, h7, h8, h9, h10, h11⟩ := h
  have e : ∀ c, 7 ≤ c → c ≠ 181 → c ≠ 184 → c < 186 ∨ 195 ≤ c → τ c = σ c := fun c c1 c2 c3 c4 => by
    have := hF.1 c (by omega) (by omega) (by omega) (by omega) (by omega) (by omega)
    rw [up_ne c2, up_ne c3] at this
    exact this
  have hgr : ∀ z, z < n → τ 8 z = σ 8 z := fun z _ => by rw [e _ (by decide) (by decide) (by decide) (by decide)]
  have hen : ∀ g, 776 ≤ g → τ 2 g = σ 2 g ∧ τ 3 g = σ 3 g ∧ τ 4 g = σ 4 g ∧ τ 6 g = σ 6 g := fun g hg => hF.2 g (by omega)
  refine ⟨hW.2.2.2.2, cRo_gr (Nat.le_refl _) (fun c c1 c2 => e c (by omega) (by omega) (by omega) (by omega)) h2, cSe_eq hgr (by rw [e 13 (by decide) (by decide) (by decide) (by decide)]) (e _ (by decide) (by decide) (by decide) (by decide)) (e _ (by decide) (by decide) (by decide) (by decide)) h3, cCl_eq (by rw [e 13 (by decide) (by decide) (by decide) (by decide)]) (fun c c1 c2 => e c (by omega) (by omega) (by omega) (by omega)) h4, cKn_eq (by rw [e 13 (by decide) (by decide) (by decide) (by decide)]) h5, nW_w hW, cKw_eq2 (e _ (by decide) (by decide) (by decide) (by decide)) (e _ (by decide) (by decide) (by decide) (by decide)) (e _ (by decide) (by decide) (by decide) (by decide)) (fun g g1 _ => hen g (by omega)) h7, cKw_eq2 (e _ (by decide) (by decide) (by decide) (by decide)) (e _ (by decide) (by decide) (by decide) (by decide)) (e _ (by decide) (by decide) (by decide) (by decide)) (fun g g1 _ => hen g (by omega)) h8, ?_, cSr_eq hgr (by rw [e 196 (by decide) (by decide) (by decide) (by decide)]) (e _ (by decide) (by decide) (by decide) (by decide)) (e _ (by decide) (by decide) (by decide) (by decide)) (e _ (by decide) (by decide) (by decide) (by decide)) (by rw [e 195 (by decide) (by decide) (by decide) (by decide)]) (e _ (by decide) (by decide) (by decide) (by decide)) h10, cQ_eq (e _ (by decide) (by decide) (by decide) (by decide)) (e _ (by decide) (by decide) (by decide) (by decide)) h11⟩
  unfold cRu
  rw [h181 _ (by decide), h181 _ (by decide), e 183 (by decide) (by decide) (by decide) (by decide), e 182 (by decide) (by decide) (by decide) (by decide)]
  rcases h9 with q | ⟨q1, q2, q3, q4⟩
  · exact Or.inl q
  · refine Or.inr ⟨q1, q2, cV_eq hgr q3, ?_⟩
    rcases hg with hg | ⟨g, g1, g2⟩
    · exact Or.inl hg
    · exact Or.inr ⟨g, g1, g2, fun _ => ⟨u, hW.1.2.2.1, hW.1.2.2.2.2.2, hW.2.2.2.1⟩⟩
set_option maxRecDepth 100000 in
set_option maxHeartbeats 4000000 in
theorem mc_eventOf (L : Nat) (xs : Nat → Int32) (d : Nat) (σ : kS) (n R S s : Nat) (x : Int32) (hRo : cRo σ n R) (hS4 : S ≤ 4) (hSr : ∀ s, s < S → ∃ r, r < R ∧ σ 15 s = nI r) (hs : s < S) : kXM kT L xs (d + 1) 69 [.ref 181, .int (nI s), .int x] σ (fun q σ' => (q = some .null ∨ ∃ r k, r < 4 ∧ k < 6 ∧ q = some (.ref (28 + 35 * r + 5 * k)) ∧ cE σ n (28 + 35 * r + 5 * k)) ∧ σ = σ') := by
  have hR4 := hRo.1
  obtain ⟨r, hr, hr2⟩ := hSr s hs
  obtain ⟨v, e, v1, e1, v2, e2, so1, ev1⟩ := hRo.2.2 r hr
  have hr4 : r < 4 := by omega
  unfold kXM
  have k39 : kX kT L xs (d + 1) 69 39 [(3, .ref (23 + 35 * r)), (0, .ref 181), (1, .int (nI s)), (2, .int x)] [] σ (fun q σ' => (q = some .null ∨ ∃ r k, r < 4 ∧ k < 6 ∧ q = some (.ref (28 + 35 * r + 5 * k)) ∧ cE σ n (28 + 35 * r + 5 * k)) ∧ σ = σ') := by
    iterate 1 (refine kX_one rfl ?_)
    refine kX_ret (i := .areturn) (len := 1) rfl (Or.inr rfl) rfl ⟨Or.inl rfl, rfl⟩
  iterate 7 (refine kX_one rfl ?_)
  refine kX_ialdV rfl rfl (by decide) (s) (by first | rfl | decide) (by omega) (hr2) ?_
  refine kX_aaldN rfl (rfl) (by decide) (by decide) (by decide) (r) (by first | rfl | decide) (hr4) (ro_at hr4) ?_
  iterate 2 (refine kX_one rfl ?_)
  repeat refine kX_one rfl ?_
  refine kX_if (fun q => ?_) (fun q => ?_)
  · exact kX_lv _ rfl rfl rfl k39
  · have q : ¬ x < 0 := of_decide_eq_false q
    obtain ⟨k, hk, rfl⟩ := nI_of q
    iterate 2 (refine kX_one rfl ?_)
    refine kX_getN rfl rfl (kT_ro hr4) rfl ?_
    refine kX_top (e2) ?_
    repeat refine kX_one rfl ?_
    refine kX_if (fun q2 => ?_) (fun q2 => ?_)
    · exact kX_lv _ rfl rfl rfl k39
    · have q2 := qgeF q2 k e
      have hk6 : k < 6 := by omega
      iterate 1 (refine kX_one rfl ?_)
      refine kX_getN rfl rfl (kT_ro hr4) rfl ?_
      iterate 1 (refine kX_one rfl ?_)
      refine kX_aaldN rfl (kT_re hr4) (by decide) (by decide) (by decide) (k) (by first | rfl | decide) (hk6) (ev_at hk6) ?_
      iterate 1 (refine kX_one rfl ?_)
      refine kX_ret (i := .areturn) (len := 1) rfl (Or.inr rfl) rfl ⟨Or.inr ⟨r, k, hr4, hk6, rfl, ev1 k q2⟩, rfl⟩
theorem ix7z (s : Nat) : nI s * (Int8.ofInt 7).toInt32 + Int32.ofInt 1 = nI (7 * s + 1) := by
  rw [show (Int8.ofInt 7).toInt32 = nI 7 from rfl, pk_mul, show Int32.ofInt 1 = nI 1 from rfl, nI_add, Nat.mul_comm s 7]
set_option maxRecDepth 100000 in
set_option maxHeartbeats 4000000 in
theorem mc_gather (L : Nat) (xs : Nat → Int32) (d : Nat) (σ : kS) (n R S C c : Nat) (h : cJ σ n R S C) (hc : c ≤ 24) (hcc : σ 181 7 = nI c) (hmv : ∀ i, i < c → ∃ s, s < S ∧ σ 183 i = nI s) (hV : cV σ n S (σ 182) 0) : kXM kT L xs (d + 54) 68 [.ref 181] σ (fun r σ' => r = none ∧ nF (va_up σ 184 (σ' 184)) σ' 186 200 ∧ ∃ u, nW σ' 186 200 n u) := by
  have hK : isK 186 200 := Or.inl ⟨rfl, rfl⟩
  obtain ⟨hT, hRo, hSe, -, ⟨kn, kn1, kn2⟩, hKw, -⟩ := h
  have hn := hT.1
  have hS4 := hSe.1
  have hSr := hSe.2.2.1
  obtain ⟨u0, hB0, hR0, he0⟩ := cKw_n hK hT hKw
  unfold kXM
  iterate 4 (refine kX_one rfl ?_)
  refine kX_cal (mc_beginKn L xs (d + 50) σ 186 200 n u0 kn hB0 he0 hT kn1 kn2) rfl (Or.inr rfl) rfl rfl rfl (fun r1 ρ q1 => ?_)
  obtain ⟨rfl, hF0, hW0⟩ := q1
  iterate 3 (refine kX_one rfl ?_)
  refine kX_cal (kX_fill (T := kT) L xs (d + 52) 0 ρ (a := 184) (n := 4) (g0 := fun _ => 0) rfl (by decide)) rfl (Or.inr rfl) rfl rfl rfl (fun r1 σ1 q1 => ?_)
  obtain ⟨rfl, rfl⟩ := q1
  have nWt : ∀ τ u f, nW τ 186 200 n u → nW (va_up τ 184 f) 186 200 n u := fun τ u f hW => ⟨hW.1, hW.2.1, hW.2.2.1, hW.2.2.2.1, cT_eq rfl rfl (fun _ _ => ⟨rfl, rfl, rfl, rfl, rfl, rfl⟩) hW.2.2.2.2⟩
  have nFt : ∀ τ f, nF (va_up σ 184 (τ 184)) τ 186 200 → nF (va_up σ 184 ((va_up τ 184 f) 184)) (va_up τ 184 f) 186 200 := fun τ f hF => by
    refine ⟨fun c a1 a2 a3 a4 a5 a6 => ?_, hF.2⟩
    by_cases e : c = 184
    · subst e
      rfl
    · have := hF.1 c a1 a2 a3 a4 a5 a6
      rw [up_ne e] at this ⊢
      rw [up_ne e]
      exact this
  have hcell : ∀ τ, nF (va_up σ 184 (τ 184)) τ 186 200 → ∀ c, 7 ≤ c → c ≠ 184 → c < 186 ∨ 195 ≤ c → τ c = σ c := fun τ hF c c1 c2 c3 => by
    have := hF.1 c c3 (by omega) (by omega) (by omega) (by omega) (by omega)
    rw [up_ne c2] at this
    exact this
  have loop : ∀ q : Nat × kS × Nat, (q.1 ≤ c ∧ nF (va_up σ 184 (q.2.1 184)) q.2.1 186 200 ∧ nW q.2.1 186 200 n q.2.2) → kX kT L xs (d + 54) 68 21 [(1, .int (nI q.1)), (0, .ref 181)] [] q.2.1 (fun r σ' => r = none ∧ nF (va_up σ 184 (σ' 184)) σ' 186 200 ∧ ∃ u, nW σ' 186 200 n u) := by
    refine kX_while (fun q : Nat × kS × Nat => [(1, .int (nI q.1)), (0, .ref 181)]) (fun q => q.2.1) _ (fun q => c - q.1) ?_
    rintro ⟨i, τ, u⟩ ⟨i1, i2, i3⟩ ih
    dsimp only at i1 i2 i3 ih ⊢
    iterate 3 (refine kX_one rfl ?_)
    refine kX_top (y := nI c) (by rw [hcell τ i2 181 (by decide) (by decide) (by decide)]; exact hcc) ?_
    repeat refine kX_one rfl ?_
    refine kX_if (fun q => ?_) (fun q => ?_)
    · iterate 2 (refine kX_one rfl ?_)
      refine kX_cal (mc_takeApart L xs d τ 186 200 n u i3.1 i3.2.1) rfl (Or.inr rfl) rfl rfl rfl (fun r1 σ1 q1 => ?_)
      obtain ⟨rfl, hP⟩ := q1
      refine kX_ret (i := .return_) (len := 1) rfl (Or.inr rfl) rfl ⟨rfl, ?_, u, nW_P i3 hP⟩
      rw [hP.1 184 (by decide)]
      exact nF_trans i2 (nF_P hK hP)
    · have q := qgeF q i c
      obtain ⟨s, hs, hs2⟩ := hmv i q
      have hs4 : s < 4 := by omega
      have hRo2 : cRo τ n R := cRo_gr (Nat.le_refl _) (fun e e1 e2 => hcell τ i2 e (by omega) (by omega) (by omega)) hRo
      have hSr2 : ∀ s, s < S → ∃ r, r < R ∧ τ 15 s = nI r := by
        rw [hcell τ i2 15 (by decide) (by decide) (by decide)]
        exact hSr
      have k101 : ∀ (ev : Value) τ' u', ev = .null ∨ (∃ a, ev = .ref a) → nF (va_up σ 184 (τ' 184)) τ' 186 200 → nW τ' 186 200 n u' → ∀ lv, nk lv = true → ([(1, .int (nI i)), (0, .ref 181)] : jL).map (fun q => jl lv q.1) = ([(1, Value.int (nI i)), (0, .ref 181)] : jL).map (fun q => some q.2) → kX kT L xs (d + 54) 68 101 lv [] τ' (fun r σ' => r = none ∧ nF (va_up σ 184 (σ' 184)) σ' 186 200 ∧ ∃ u, nW σ' 186 200 n u) := by
        intro ev τ' u' _ x1 x2 lv hk hlv
        refine kX_lv _ hk rfl hlv ?_
        iterate 2 (refine kX_one rfl ?_)
        have := ih (i + 1, τ', u') ⟨q, x1, x2⟩ (by simp only; omega)
        dsimp only at this
        rw [← nI_1] at this
        exact kX_lv _ rfl rfl rfl this
      iterate 3 (refine kX_one rfl ?_)
      refine kX_ialdV rfl rfl (by decide) (i) (by first | rfl | decide) (by omega) ((congrFun (hcell τ i2 _ (by decide) (by decide) (by decide)) i).trans hs2) ?_
      iterate 6 (refine kX_one rfl ?_)
      refine kX_ialdN rfl rfl (by decide) (s) (by first | rfl | decide) (hs4) ?_
      refine kX_cal (mc_eventOf L xs (d + 52) τ n R S s _ hRo2 hS4 hSr2 hs) rfl (Or.inr rfl) rfl rfl rfl (fun r1 σ1 q1 => ?_)
      obtain ⟨hq, rfl⟩ := q1
      rcases hq with rfl | ⟨r, k, hr4, hk6, rfl, hE⟩
      · iterate 5 (refine kX_one rfl ?_)
        refine kX_ialdN rfl rfl (by decide) (s) (by first | rfl | decide) (hs4) ?_
        iterate 2 (refine kX_one rfl ?_)
        refine kX_iastN rfl rfl (by decide) (s) (by first | rfl | decide) (hs4) ?_
        iterate 2 (refine kX_one rfl ?_)
        exact k101 .null _ u (Or.inl rfl) (nFt τ _ i2) (nWt τ u _ i3) _ rfl rfl
      · iterate 5 (refine kX_one rfl ?_)
        refine kX_ialdN rfl rfl (by decide) (s) (by first | rfl | decide) (hs4) ?_
        iterate 2 (refine kX_one rfl ?_)
        refine kX_iastN rfl rfl (by decide) (s) (by first | rfl | decide) (hs4) ?_
        have hF3 := nFt τ (upd (τ 184) s (τ 184 s + Int32.ofInt 1)) i2
        have hW3 := nWt τ u (upd (τ 184) s (τ 184 s + Int32.ofInt 1)) i3
        obtain ⟨t, mm, qq, t1, -, -, t2, -⟩ := hE
        iterate 3 (refine kX_one rfl ?_)
        refine kX_getN rfl rfl (kT_ev hr4 hk6) rfl ?_
        repeat refine kX_one rfl ?_
        refine kX_if (fun q2 => ?_) (fun q2 => ?_)
        · exact k101 .null _ u (Or.inl rfl) hF3 hW3 _ rfl rfl
        · have hv : ∀ p, p < 6 → gV (va_up τ 184 (upd (τ 184) s (τ 184 s + Int32.ofInt 1))) n ((va_up τ 184 (upd (τ 184) s (τ 184 s + Int32.ofInt 1))) 182 (7 * s + 1 + p)) := fun p hp => by
            show gV τ n (τ 182 (7 * s + 1 + p))
            rw [hcell τ i2 182 (by decide) (by decide) (by decide)]
            have := hV s p hs hp
            rw [show 0 + 7 * s + 1 + p = 7 * s + 1 + p by omega] at this
            exact gV_up (Nat.le_refl _) (fun z _ => by rw [hcell τ i2 8 (by decide) (by decide) (by decide)]) this
          generalize va_up τ 184 (upd (τ 184) s (τ 184 s + Int32.ofInt 1)) = ω at *
          iterate 5 (refine kX_one rfl ?_)
          refine kX_getN rfl rfl (kT_ev hr4 hk6) rfl ?_
          iterate 7 (refine kX_one rfl ?_)
          refine kX_top (y := nI (7 * s + 1)) (ix7z s) ?_
          iterate 1 (refine kX_one rfl ?_)
          refine kX_cal (mc_groundOf L xs 186 200 n 182 28 (7 * s + 1) (fun _ => 0) rfl (by decide) (by decide) (by omega) 49 d 0 u ω _ rfl hW3 hv) rfl (Or.inr rfl) rfl rfl rfl (fun r1 σ2 q1 => ?_)
          obtain ⟨u1, v1, x1, rfl, x3, x4, x5⟩ := q1
          iterate 2 (refine kX_one rfl ?_)
          refine kX_cal (mc_add L xs (d + 51) σ2 186 200 n u1 v1 _ _ x5.1 x5.2.1) rfl (Or.inr rfl) rfl rfl rfl (fun r1 σ3 q1 => ?_)
          obtain ⟨hq, hP⟩ := q1
          have hF4 : nF (va_up σ 184 (σ3 184)) σ3 186 200 := by
            rw [hP.1 184 (by decide), x4.1 184 (by decide) (by decide) (by decide) (by decide) (by decide) (by decide)]
            exact nF_trans hF3 (nF_trans x4 (nF_P hK hP))
          rcases hq with rfl | rfl
          · iterate 1 (refine kX_one rfl ?_)
            exact k101 .null _ u1 (Or.inl rfl) hF4 (nW_P x5 hP) _ rfl rfl
          · iterate 1 (refine kX_one rfl ?_)
            exact k101 .null _ u1 (Or.inl rfl) hF4 (nW_P x5 hP) _ rfl rfl
  iterate 2 (refine kX_one rfl ?_)
  refine kX_lv _ rfl rfl rfl (loop (0, va_up ρ 184 (fun j => if j < 4 then 0 else ρ 184 j), 0) ⟨Nat.zero_le _, nFt ρ _ ?_, nWt ρ 0 _ hW0⟩)
  have e184 : ρ 184 = σ 184 := hF0.1 _ (by decide) (by decide) (by decide) (by decide) (by decide) (by decide)
  rw [e184, kup_self]
  exact hF0
end
section
/-! the class: intruder, makes, step, send -/
def inP (σ τ : kS) (n R S C : Nat) : Prop := cHi σ τ ∧ cJ τ n R S C ∧ (∃ u, nW τ 186 200 n u) ∧ (∀ c, 7 ≤ c → c ≠ 181 → c ≠ 184 → c < 186 ∨ 195 ≤ c → τ c = σ c) ∧ ∀ j, j ≠ 9 → τ 181 j = σ 181 j
set_option maxRecDepth 100000 in
set_option maxHeartbeats 4000000 in
theorem mc_intruder (L : Nat) (xs : Nat → Int32) (d : Nat) (σ : kS) (n R S C : Nat) (h : cJ σ n R S C) (hon : σ 181 8 ≠ 0) : kXM kT L xs (d + 55) 67 [.ref 181] σ (fun r σ' => r = some (.ref 186) ∧ inP σ σ' n R S C) := by
  have hT := h.1
  have hK : isK 186 200 := Or.inl ⟨rfl, rfl⟩
  have hRu := h.2.2.2.2.2.2.2.2.1
  rcases hRu with hRu | ⟨-, ⟨c, c1, c2, c3⟩, hV, hg⟩
  · exact absurd hRu hon
  · unfold kXM
    iterate 5 (refine kX_one rfl ?_)
    refine kX_top (hT.2.1) ?_
    repeat refine kX_one rfl ?_
    refine kX_if (fun q => ?_) (fun q => ?_)
    · have q : σ 181 9 = nI n := qeq q
      have hn := hT.1
      obtain ⟨g, g1, g2, g3⟩ : ∃ g, g ≤ n ∧ σ 181 9 = nI g ∧ (g = n → ∃ u, u ≤ 576 ∧ σ 186 3 = nI u ∧ cKg σ n 200 u) := by
        rcases hg with hg | hg
        · exact absurd (q.symm.trans hg) (nI_m1 (by omega))
        · exact hg
      obtain ⟨u, u1, u2, u3⟩ := g3 (nI_inj (g2.symm.trans q))
      obtain ⟨u', hB, hR, he⟩ := cKw_n hK hT h.2.2.2.2.2.1
      obtain rfl : u = u' := nI_inj (u2.symm.trans hB.2.2.2.2.2) (by omega) (by have := hB.2.2.1; omega)
      repeat refine kX_one rfl ?_
      refine kX_ret (i := .areturn) (len := 1) rfl (Or.inr rfl) rfl ⟨rfl, cHi_refl σ, h, ⟨u, hB, hR, he, u3, hT⟩, fun _ _ _ _ _ => rfl, fun _ _ => rfl⟩
    · iterate 1 (refine kX_one rfl ?_)
      refine kX_cal (mc_gather L xs d σ n R S C c h c1 c2 c3 hV) rfl (Or.inr rfl) rfl rfl rfl (fun r1 τ q1 => ?_)
      obtain ⟨rfl, hF, u, hW⟩ := q1
      have hcell : ∀ c, 7 ≤ c → c ≠ 184 → c < 186 ∨ 195 ≤ c → τ c = σ c := fun c c1 c2 c3 => by
        have := hF.1 c c3 (by omega) (by omega) (by omega) (by omega) (by omega)
        rw [up_ne c2] at this
        exact this
      iterate 4 (refine kX_one rfl ?_)
      refine kX_top (hW.2.2.2.2.2.1) ?_
      iterate 1 (refine kX_one rfl ?_)
      refine kX_st (va_up τ 181 (upd (τ 181) 9 (nI n))) rfl ?_
      have h181 : τ 181 = σ 181 := hcell 181 (by decide) (by decide) (by decide)
      have hW2 : nW (va_up τ 181 (upd (τ 181) 9 (nI n))) 186 200 n u := ⟨hW.1, hW.2.1, hW.2.2.1, hW.2.2.2.1, cT_eq rfl rfl (fun _ _ => ⟨rfl, rfl, rfl, rfl, rfl, rfl⟩) hW.2.2.2.2⟩
      have hJ : cJ (va_up τ 181 (upd (τ 181) 9 (nI n))) n R S C := by
        refine cJ_in h ⟨fun c a1 a2 a3 a4 a5 a6 => ?_, hF.2⟩ hW2 (fun j hj => ?_) (Or.inr ⟨n, Nat.le_refl _, rfl⟩)
        · by_cases e : c = 181
          · subst e
            rfl
          · have := hF.1 c a1 a2 a3 a4 a5 a6
            rw [up_ne e, up_ne e]
            exact this
        · rw [up_eq, pk_un hj, h181]
      iterate 2 (refine kX_one rfl ?_)
      refine kX_ret (i := .areturn) (len := 1) rfl (Or.inr rfl) rfl ⟨rfl, fun c hc => ?_, hJ, ⟨u, hW2⟩, fun c a1 a2 a3 a4 => ?_, fun j hj => ?_⟩
      · rw [up_ne (by omega)]
        exact hcell c (by omega) (by omega) (by omega)
      · rw [up_ne a2]
        exact hcell c a1 a3 a4
      · rw [up_eq, pk_un hj, h181]
/-- the row's methods keep all -/
theorem cJ_P {σ τ : kS} {n R S C u : Nat} (h : cJ σ n R S C) (hW : nW σ 186 200 n u) (hP : nP σ τ 186) : cJ τ n R S C := by
  have hK : isK 186 200 := Or.inl ⟨rfl, rfl⟩
  have hRu := h.2.2.2.2.2.2.2.2.1
  have e181 : τ 181 = σ 181 := hP.1 _ (by decide)
  rcases hRu with hRu | ⟨on1, cnt1, hV, hg⟩
  · obtain ⟨h1, h2, h3, h4, h5, h6, h7, h8, h9, h10, h11⟩ := h
    have := cJ_in (τ := τ) ⟨h1, h2, h3, h4, h5, h6, h7, h8, h9, h10, h11⟩ (by rw [hP.1 184 (by decide), e181, kup_self, kup_self]; exact nF_P hK hP) (nW_P hW hP) (fun j _ => by rw [e181])
    have e : ∀ c, c < 186 ∨ 195 ≤ c → τ c = σ c := hP.1
    have hgr : ∀ z, z < n → τ 8 z = σ 8 z := fun z _ => by rw [e _ (by decide)]
    have hgt : ∀ g, 200 ≤ g → τ 2 g = σ 2 g ∧ τ 3 g = σ 3 g ∧ τ 4 g = σ 4 g ∧ τ 6 g = σ 6 g := fun g _ => by
      rw [e 2 (by decide), e 3 (by decide), e 4 (by decide), e 6 (by decide)]
      exact ⟨rfl, rfl, rfl, rfl⟩
    refine ⟨(nW_P hW hP).2.2.2.2, cRo_gr (Nat.le_refl _) (fun c c1 c2 => e c (by omega)) h2, cSe_eq hgr (by rw [e 13 (by decide)]) (e _ (by decide)) (e _ (by decide)) h3, cCl_eq (by rw [e 13 (by decide)]) (fun c c1 c2 => e c (by omega)) h4, cKn_eq (by rw [e 13 (by decide)]) h5, nW_w (nW_P hW hP), cKw_eq (by decide) (e _ (by decide)) (e _ (by decide)) (e _ (by decide)) hgt h7, cKw_eq (by decide) (e _ (by decide)) (e _ (by decide)) (e _ (by decide)) hgt h8, Or.inl (by rw [e181]; exact hRu), cSr_eq hgr (by rw [e 196 (by decide)]) (e _ (by decide)) (e _ (by decide)) (e _ (by decide)) (by rw [e 195 (by decide)]) (e _ (by decide)) h10, cQ_eq (e _ (by decide)) (e _ (by decide)) h11⟩
  · refine cJ_in h (by rw [hP.1 184 (by decide), e181, kup_self, kup_self]; exact nF_P hK hP) (nW_P hW hP) (fun j _ => by rw [e181]) ?_
    rw [e181]
    rcases hg with hg | ⟨g, g1, g2, -⟩
    · exact Or.inl hg
    · exact Or.inr ⟨g, g1, g2⟩
set_option maxRecDepth 100000 in
set_option maxHeartbeats 4000000 in
theorem mk_makes (L : Nat) (xs : Nat → Int32) (d : Nat) (σ : kS) (n R S C : Nat) (x : Int32) (h : cJ σ n R S C) : kXM kT L xs (d + 56) 126 [.ref 0, .int x] σ (fun r σ' => (∃ x, r = some (.int x)) ∧ cAfter σ σ' R) := by
  have hT := h.1
  have hn := hT.1
  have hK : isK 186 200 := Or.inl ⟨rfl, rfl⟩
  unfold kXM
  iterate 3 (refine kX_one rfl ?_)
  refine kX_cal (mc_has L xs (d + 54) σ n x hn hT.2.1) rfl (Or.inr rfl) rfl rfl rfl (fun r1 σ1 q1 => ?_)
  obtain ⟨rfl, rfl⟩ := q1
  repeat refine kX_one rfl ?_
  refine kX_if (fun q => ?_) (fun q => ?_)
  · obtain ⟨t, ht, rfl⟩ := isB_ne.mp (qne q)
    repeat refine kX_one rfl ?_
    refine kX_if (fun q2 => ?_) (fun q2 => ?_)
    · have hon : σ 181 8 ≠ 0 := qne q2
      iterate 4 (refine kX_one rfl ?_)
      refine kX_baldN rfl rfl (by decide) (t) (by first | rfl | decide) (by omega) ?_
      repeat refine kX_one rfl ?_
      refine kX_if (fun q3 => ?_) (fun q3 => ?_)
      · repeat refine kX_one rfl ?_
        refine kX_ret (i := .ireturn) (len := 1) rfl (Or.inr rfl) rfl (⟨⟨_, rfl⟩, cAfter_same h⟩)
      · iterate 2 (refine kX_one rfl ?_)
        refine kX_cal (mc_intruder L xs d σ n R S C h hon) rfl (Or.inr rfl) rfl rfl rfl (fun r1 τ q1 => ?_)
        obtain ⟨rfl, i1, i2, ⟨u, i3⟩, -⟩ := q1
        iterate 2 (refine kX_one rfl ?_)
        refine kX_cal (mc_canMake L xs 186 200 n u 49 (d + 4) 0 τ (nI t) rfl i3.1 i3.2.1) rfl (Or.inr rfl) rfl rfl rfl (fun r1 ω q1 => ?_)
        obtain ⟨hq, hP⟩ := q1
        have hA : cAfter σ ω R := ⟨cHi_trans i1 (fun c hc => hP.1 c (by omega)), n, S, C, cJ_P i2 i3 hP⟩
        rcases hq with rfl | rfl
        · refine kX_cal (mc_asNumber L xs (d + 54) ω _) rfl (Or.inr rfl) rfl rfl rfl (fun r1 σ1 q1 => ?_)
          obtain ⟨rfl, rfl⟩ := q1
          repeat refine kX_one rfl ?_
          refine kX_ret (i := .ireturn) (len := 1) rfl (Or.inr rfl) rfl (⟨⟨_, rfl⟩, hA⟩)
        · refine kX_cal (mc_asNumber L xs (d + 54) ω _) rfl (Or.inr rfl) rfl rfl rfl (fun r1 σ1 q1 => ?_)
          obtain ⟨rfl, rfl⟩ := q1
          repeat refine kX_one rfl ?_
          refine kX_ret (i := .ireturn) (len := 1) rfl (Or.inr rfl) rfl (⟨⟨_, rfl⟩, hA⟩)
    · repeat refine kX_one rfl ?_
      refine kX_ret (i := .ireturn) (len := 1) rfl (Or.inr rfl) rfl (⟨⟨_, rfl⟩, cAfter_same h⟩)
  · repeat refine kX_one rfl ?_
    refine kX_ret (i := .ireturn) (len := 1) rfl (Or.inr rfl) rfl (⟨⟨_, rfl⟩, cAfter_same h⟩)
end
