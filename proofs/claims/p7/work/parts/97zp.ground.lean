/-! the class: groundOf -/
theorem nF_gr {σ τ : kS} {K st : Nat} (hK : isK K st) (h : nF σ τ K st) : τ 8 = σ 8 := by
  have := isK_b hK
  exact h.1 _ (by omega) (by decide) (by decide) (by decide) (by decide) (by decide)
theorem cKc_F {σ τ : kS} {n : Nat} {c : Int32} (e : τ 8 = σ 8) : cKc τ n c ↔ cKc σ n c := by
  unfold cKc
  rw [e]
theorem gV_c {σ : kS} {n : Nat} {c : Int32} (h : gV σ n c) : cKc σ n c := by
  rcases h with q | q
  · exact Or.inl q
  · exact Or.inr (Or.inl q)
set_option maxRecDepth 100000 in
set_option maxHeartbeats 4000000 in
theorem mc_groundOf (L : Nat) (xs : Nat → Int32) (K st n A M vals : Nat) (g0 : Nat → Int32) (hA : kT[A]? = some (.inl (0, M, .inl g0))) (hM : M ≤ 100000) (hA2 : (A < K ∨ K + 9 ≤ A) ∧ 13 ≤ A) (hvl : vals + 6 ≤ M) : ∀ (m d dd u : Nat) (σ : kS) (x : Int32), dd + m = 49 → nW σ K st n u → (∀ p, p < 6 → gV σ n (σ A (vals + p))) → kXM kT L xs (d + m + 4) 50 [.ref K, .int x, .ref A, .int (nI vals), .int (nI dd)] σ (fun r σ' => fpP σ σ' K st n u r) := by
  intro m
  induction m with
  | zero =>
    intro d dd u σ x hdd h hv
    have hB := h.1
    have hT := h.2.2.2.2
    unfold kXM
    have k18 : kX kT L xs (d + 4) 50 18 (lv_args 0 [.ref K, .int x, .ref A, .int (nI vals), .int (nI dd)]) [] σ (fun r σ' => fpP σ σ' K st n u r) := by
      repeat refine kX_one rfl ?_
      refine kX_ret (i := .ireturn) (len := 1) rfl (Or.inr rfl) rfl (⟨u, -1, Nat.le_refl _, rfl, Or.inl rfl, nF_refl σ K st, h⟩)
    iterate 1 (refine kX_one rfl ?_)
    refine kX_getN rfl rfl (kT_kn hB.1) rfl ?_
    iterate 1 (refine kX_one rfl ?_)
    refine kX_cal (mc_has L xs (d + 2) σ n x hT.1 hT.2.1) rfl (Or.inr rfl) rfl rfl rfl (fun r1 σ1 q1 => ?_)
    obtain ⟨rfl, rfl⟩ := q1
    repeat refine kX_one rfl ?_
    refine kX_if (fun q => ?_) (fun q => ?_)
    · exact k18
    · iterate 2 (refine kX_one rfl ?_)
      repeat refine kX_one rfl ?_
      refine kX_if (fun q2 => ?_) (fun q2 => ?_)
      · have q2 := qle q2 dd 48
        omega
      · exact k18
  | succ m ih =>
    intro d dd u σ x hdd h hv
    have hB := h.1
    have hT := h.2.2.2.2
    have hn := hT.1
    have hb := isK_b hB.1
    unfold kXM
    have k18 : kX kT L xs (d + m + 5) 50 18 (lv_args 0 [.ref K, .int x, .ref A, .int (nI vals), .int (nI dd)]) [] σ (fun r σ' => fpP σ σ' K st n u r) := by
      repeat refine kX_one rfl ?_
      refine kX_ret (i := .ireturn) (len := 1) rfl (Or.inr rfl) rfl (⟨u, -1, Nat.le_refl _, rfl, Or.inl rfl, nF_refl σ K st, h⟩)
    iterate 1 (refine kX_one rfl ?_)
    refine kX_getN rfl rfl (kT_kn hB.1) rfl ?_
    iterate 1 (refine kX_one rfl ?_)
    refine kX_cal (mc_has L xs (d + m + 3) σ n x hn hT.2.1) rfl (Or.inr rfl) rfl rfl rfl (fun r1 σ1 q1 => ?_)
    obtain ⟨rfl, rfl⟩ := q1
    repeat refine kX_one rfl ?_
    refine kX_if (fun q => ?_) (fun q => ?_)
    · exact k18
    · obtain ⟨t, ht, rfl⟩ := isB_ne.mp (qeqF q)
      iterate 2 (refine kX_one rfl ?_)
      repeat refine kX_one rfl ?_
      refine kX_if (fun q2 => ?_) (fun q2 => ?_)
      · iterate 1 (refine kX_one rfl ?_)
        refine kX_getN rfl rfl (kT_kn hB.1) rfl ?_
        iterate 2 (refine kX_one rfl ?_)
        refine kX_baldN rfl rfl (by decide) (t) (by first | rfl | decide) (by omega) ?_
        repeat refine kX_one rfl ?_
        refine kX_if (fun q3 => ?_) (fun q3 => ?_)
        · have q3 : σ 8 t = 0 := qeq q3
          iterate 1 (refine kX_one rfl ?_)
          refine kX_getN rfl rfl (kT_kn hB.1) rfl ?_
          iterate 2 (refine kX_one rfl ?_)
          refine kX_ialdN rfl rfl (by decide) (t) (by first | rfl | decide) (by omega) ?_
          iterate 1 (refine kX_one rfl ?_)
          repeat refine kX_one rfl ?_
          refine kX_if (fun q4 => ?_) (fun q4 => ?_)
          · have q4 : σ 2 t ≠ 3 := qne q4
            have hrec : ∀ τ w u1, nF σ τ K st → nW τ K st n u1 → kXM kT L xs (d + m + 4) 50 [.ref K, .int w, .ref A, .int (nI vals), .int (nI dd + Int32.ofInt 1)] τ (fun r σ' => fpP τ σ' K st n u1 r) := fun τ w u1 hF hW => by
              have := ih d (dd + 1) u1 τ w (by omega) hW (fun p hp => by
                rw [hF.1 A hA2.1 (by omega) (by omega) (by omega) (by omega) (by omega)]
                exact gV_up (Nat.le_refl _) (fun z _ => by rw [nF_gr hB.1 hF]) (hv p hp))
              rw [← nI_1] at this
              exact this
            obtain ⟨⟨kk, k1, k2⟩, -⟩ := hT.2.2.2 t ht
            have hk4 : 4 ≤ kk := by
              have h3 : kk ≠ 3 := fun e => q4 (by rw [k2, e]; rfl)
              refine Nat.not_lt.mp (fun hh => ?_)
              obtain ⟨-, -, -, -, -, a6, a7, -⟩ := hT.2.2.2 t ht
              obtain ⟨f1, f2⟩ := a7 (by rw [k2, fN_nI (by omega)]; omega)
              have : σ 8 t = 1 := by
                rw [a6 (by rw [k2]; exact nI_ne h3), f1, f2]
                exact ⟨cG_m1 σ t (by omega), cG_m1 σ t (by omega)⟩
              rw [q3] at this
              exact absurd this (by decide)
            iterate 2 (refine kX_one rfl ?_)
            refine kX_getN rfl rfl (kT_kn hB.1) rfl ?_
            iterate 2 (refine kX_one rfl ?_)
            refine kX_ialdN rfl rfl (by decide) (t) (by first | rfl | decide) (by omega) ?_
            iterate 5 (refine kX_one rfl ?_)
            refine kX_cal (hrec σ (σ 3 t) u (nF_refl σ K st) h) rfl (Or.inr rfl) rfl (jcall_v rfl rfl rfl (kT_kn hB.1) rfl rfl) rfl (fun r1 σ1 q1 => ?_)
            obtain ⟨u1, v1, x1, rfl, x3, x4, x5⟩ := q1
            iterate 3 (refine kX_one rfl ?_)
            refine kX_getN rfl rfl (kT_kn hB.1) rfl ?_
            iterate 2 (refine kX_one rfl ?_)
            refine kX_ialdN rfl rfl (by decide) (t) (by first | rfl | decide) (by omega) ?_
            iterate 5 (refine kX_one rfl ?_)
            refine kX_cal (hrec σ1 (σ1 4 t) u1 x4 x5) rfl (Or.inr rfl) rfl (jcall_v rfl rfl rfl (kT_kn hB.1) rfl rfl) rfl (fun r1 σ2 q1 => ?_)
            obtain ⟨u2, v2, y1, rfl, y3, y4, y5⟩ := q1
            have hF2 := nF_trans x4 y4
            have hkd : σ1 2 t = nI kk := by
              rw [(x4.2 t (by omega)).1]
              exact k2
            iterate 3 (refine kX_one rfl ?_)
            refine kX_getN rfl rfl (kT_kn hB.1) rfl ?_
            iterate 2 (refine kX_one rfl ?_)
            refine kX_ialdV rfl rfl (by decide) (t) (rfl) (by omega) (((y4.2 t (by omega)).1.trans hkd)) ?_
            iterate 2 (refine kX_one rfl ?_)
            refine kX_cal (mc_findOrPut L xs (d + m + 1) _ K st n u2 kk v1 v2 y5 hk4 k1 ((cKc_F (nF_gr hB.1 hF2)).mpr x3) ((cKc_F (nF_gr hB.1 y4)).mpr y3)) rfl (Or.inr rfl) rfl (jcall_v rfl rfl rfl (kT_kn hB.1) rfl rfl) rfl (fun r1 σ1 q1 => ?_)
            obtain ⟨u3, v3, z1, rfl, z3, z4, z5⟩ := q1
            refine kX_ret (i := .ireturn) (len := 1) rfl (Or.inr rfl) rfl (⟨u3, v3, by omega, rfl, (cKc_F (nF_gr hB.1 hF2)).mp z3, nF_trans hF2 z4, z5⟩)
          · have q4 : σ 2 t = nI 3 := qneF q4
            obtain ⟨-, -, -, -, a5, -⟩ := hT.2.2.2 t ht
            obtain ⟨-, p, p1, p2⟩ := a5 q4
            iterate 3 (refine kX_one rfl ?_)
            refine kX_getN rfl rfl (kT_kn hB.1) rfl ?_
            iterate 2 (refine kX_one rfl ?_)
            refine kX_ialdV rfl rfl (by decide) (t) (by first | rfl | decide) (by omega) (p2) ?_
            iterate 1 (refine kX_one rfl ?_)
            refine kX_ialdN rfl hA hM (vals + p) (nI_add vals p) (by omega) ?_
            refine kX_ret (i := .ireturn) (len := 1) rfl (Or.inr rfl) rfl (⟨u, σ A (vals + p), Nat.le_refl _, rfl, gV_c (hv p p1), nF_refl σ K st, h⟩)
        · have q3 : σ 8 t ≠ 0 := qeqF q3
          have hg1 : σ 8 t = 1 := (cT_01 hT t ht).elim (fun z => absurd z q3) id
          repeat refine kX_one rfl ?_
          refine kX_ret (i := .ireturn) (len := 1) rfl (Or.inr rfl) rfl (⟨u, nI t, Nat.le_refl _, rfl, Or.inr (Or.inl ⟨t, ht, rfl, hg1⟩), nF_refl σ K st, h⟩)
      · exact k18
set_option maxRecDepth 100000 in
set_option maxHeartbeats 4000000 in
theorem mc_beginKn (L : Nat) (xs : Nat → Int32) (d : Nat) (σ : kS) (K st n u kn : Nat) (hB : nB σ K st n u) (he : cKe σ K st u) (hT : cT σ n) (hk : kn ≤ 20) (hkn : σ 13 10 = nI kn) : kXM kT L xs (d + 3) 21 [.ref 13, .ref K] σ (fun r σ' => r = none ∧ nF σ σ' K st ∧ nW σ' K st n 0) := by
  have hb := isK_b hB.1
  unfold kXM
  iterate 1 (refine kX_one rfl ?_)
  refine kX_cal (mc_kStart L xs d σ K st n u hB he) rfl (Or.inr rfl) rfl (jcall_v rfl rfl rfl (kT_kn hB.1) rfl rfl) rfl (fun r1 σ1 q1 => ?_)
  obtain ⟨rfl, g1, g2, g3, g4, g5⟩ := q1
  have hF1 : nF σ σ1 K st := by
    refine ⟨fun c a1 _ _ _ _ _ => g1 c (by omega), fun j _ => ?_⟩
    rw [g1 2 (by omega), g1 3 (by omega), g1 4 (by omega), g1 6 (by omega)]
    exact ⟨rfl, rfl, rfl, rfl⟩
  have hW1 : nW σ1 K st n 0 := ⟨⟨hB.1, hB.2.1, by omega, by rw [g1 1 (by omega)]; exact hT.2.1, g2, g3⟩, ⟨0, by omega, g4, fun i hi => absurd hi (Nat.not_lt_zero i)⟩, ⟨fun s hs => Or.inl (g5 s hs), fun g x1 x2 => by omega⟩, fun g x1 x2 => by omega, cT_nF hB.1 hF1 hT⟩
  have loop : ∀ q : Nat × kS, (q.1 ≤ kn ∧ nP σ1 q.2 K) → kX kT L xs (d + 3) 21 6 [(2, .int (nI q.1)), (0, .ref 13), (1, .ref K)] [] q.2 (fun r σ' => r = none ∧ nF σ σ' K st ∧ nW σ' K st n 0) := by
    refine kX_while (fun q : Nat × kS => [(2, .int (nI q.1)), (0, .ref 13), (1, .ref K)]) (fun q => q.2) _ (fun q => kn - q.1) ?_
    rintro ⟨i, τ⟩ ⟨i1, i2⟩ ih
    dsimp only at i1 i2 ih ⊢
    have e13 : τ 13 = σ 13 := (i2.1 13 (by omega)).trans (g1 13 (by omega))
    iterate 3 (refine kX_one rfl ?_)
    refine kX_top (y := nI kn) (by rw [e13]; exact hkn) ?_
    repeat refine kX_one rfl ?_
    refine kX_if (fun q => ?_) (fun q => ?_)
    · refine kX_ret (i := .return_) (len := 1) rfl (Or.inr rfl) rfl ⟨rfl, nF_trans hF1 (nF_P hB.1 i2), nW_P hW1 i2⟩
    · have q := qgeF q i kn
      iterate 4 (refine kX_one rfl ?_)
      refine kX_ialdN rfl rfl (by decide) (i) (by first | rfl | decide) (by omega) ?_
      iterate 2 (refine kX_one rfl ?_)
      refine kX_cal (mc_add L xs d τ K st n 0 _ _ _ (nW_P hW1 i2).1 i2.2.2.2) rfl (Or.inr rfl) rfl (jcall_v rfl rfl rfl (kT_kn hB.1) rfl rfl) rfl (fun r1 σ1 q1 => ?_)
      obtain ⟨hq, hP⟩ := q1
      rcases hq with rfl | rfl
      · iterate 3 (refine kX_one rfl ?_)
        have := ih (i + 1, σ1) ⟨q, nP_trans i2 hP⟩ (by simp only; omega)
        dsimp only at this
        rw [← nI_1] at this
        exact kX_lv _ rfl rfl rfl this
      · iterate 3 (refine kX_one rfl ?_)
        have := ih (i + 1, σ1) ⟨q, nP_trans i2 hP⟩ (by simp only; omega)
        dsimp only at this
        rw [← nI_1] at this
        exact kX_lv _ rfl rfl rfl this
  iterate 2 (refine kX_one rfl ?_)
  exact kX_lv _ rfl rfl rfl (loop (0, σ1) ⟨Nat.zero_le _, nP_refl hW1.2.1⟩)
