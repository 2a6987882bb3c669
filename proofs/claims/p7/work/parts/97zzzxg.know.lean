/-! alike: takeApart -/
theorem kTr_len {σ : kS} {l : rwT} : (kTr σ l).length = l.length := List.length_map ..
/-- all is taken apart -/
def tkE (σ : kS) (K st n u m : Nat) (l : rwT) (r : Option Value) (σ' : kS) : Prop := r = none ∧ ∃ l', iE σ' K st n u m l' ∧ σ' K 13 = 1 ∧ nP σ σ' K ∧ kTr σ' l' = trE (mA σ) (σ 238) 1001 (kTr σ l)
set_option maxRecDepth 100000 in
set_option maxHeartbeats 4000000 in
theorem mf_takeApart (L : Nat) (xs : Nat → Int32) (d : Nat) (σ : kS) (K st n u m : Nat) (l : rwT) (h : iE σ K st n u m l) (hw : σ K 13 = 0) : kXM kT L xs (d + 53) 52 [.ref K] σ (tkE σ K st n u m l) := by
  have hb := isK_b h.1
  unfold kXM
  have k64 : ∀ τ l' lv, iE τ K st n u m l' → τ K 13 = 0 → nP σ τ K → kTr τ l' = trE (mA σ) (σ 238) 1001 (kTr σ l) → nk lv = true → ([(0, .ref K)] : jL).map (fun q => jl lv q.1) = ([(0, Value.ref K)] : jL).map (fun q => some q.2) → kX kT L xs (d + 53) 52 64 lv [] τ (tkE σ K st n u m l) := by
    intro τ l' lv hE hw' hP hT hk hlv
    refine kX_lv _ hk rfl hlv ?_
    iterate 2 (refine kX_one rfl ?_)
    refine kX_putN rfl rfl (kT_kn h.1) rfl (rfl) rfl ?_
    have eo : ∀ c, c < K ∨ K + 9 ≤ c → va_up τ K (upd (τ K) 13 (Int32.ofInt 1)) c = τ c := fun c hc => up_ne (by omega)
    have hE2 : iE (va_up τ K (upd (τ K) 13 (Int32.ofInt 1))) K st n u m l' := by
      refine iE_fr hE eo (up_ne (by omega)) (fun j _ j2 => by rw [up_eq]; exact pk_un j2) ?_ (fun z z1 z2 => by rw [up_ne (by omega), up_ne (by omega)]; exact hE.2.2.2.2.2.2.2.2.2 z z1 z2) ?_
      · obtain ⟨w1, w2, w3, w4⟩ := hE.2.2.2.2.2.1
        unfold kMs
        rw [up_eq, up_ne (show K + 5 ≠ K by omega), up_ne (show K + 6 ≠ K by omega), up_ne (show K + 7 ≠ K by omega)]
        exact ⟨w1, w2, w3, w4⟩
      · obtain ⟨r1, r2, r3, r4, r5, r6, r7, r8⟩ := hE.2.2.2.2.2.2.2.1
        have hc := kFr_c h.1 eo (l := kCl) (by decide)
        have hmk : ∀ z, kMk (va_up τ K (upd (τ K) 13 (Int32.ofInt 1))) l' z = kMk τ l' z := fun z => kMk_c hc
        unfold kRw
        simp only [hmk]
        rw [up_eq, up_ne (show K + 2 ≠ K by omega), up_ne (show K + 3 ≠ K by omega), up_ne (show K + 4 ≠ K by omega), up_ne (show K + 5 ≠ K by omega), up_ne (show K + 6 ≠ K by omega), up_ne (show K + 7 ≠ K by omega), hc 2 (by decide), hc 3 (by decide), hc 4 (by decide)]
        exact ⟨r1, r2, r3, r4, r5, r6, r7, fun g hg hd => ⟨(r8 g hg hd).1, fun z => absurd hw' ((r8 g hg hd).2 z).1⟩⟩
    refine kX_ret (i := .return_) (len := 1) rfl (Or.inr rfl) rfl ⟨rfl, l', hE2, by rw [up_eq]; exact pk_us, nP_trans hP ⟨fun c hc => up_ne (by omega), up_ne (by omega), fun j j1 j2 => by rw [up_eq]; exact pk_un j2, iE_nR hE2⟩, ?_⟩
    rw [kTr_c (kFr_c h.1 eo (by decide))]
    exact hT
  have inner : ∀ (p : Nat) (l0 : rwT) (T : trT), p ≤ 776 → (∀ τ l', iE τ K st n u m l' → τ K 13 = 0 → nP σ τ K → l0.length ≤ l'.length → kTr τ l' = T → kX kT L xs (d + 53) 52 58 [(1, .int (isB (l0.length < l'.length))), (2, .int (nI p)), (0, .ref K)] [] τ (tkE σ K st n u m l)) → ∀ q : Nat × Int32 × kS, (q.1 ≤ 776 ∧ ∃ l', iE q.2.2 K st n u m l' ∧ q.2.2 K 13 = 0 ∧ nP σ q.2.2 K ∧ l0.length ≤ l'.length ∧ q.2.1 = isB (l0.length < l'.length) ∧ trP (mA σ) (σ 238) (1001 - q.1) q.1 (kTr q.2.2 l') = T) → kX kT L xs (d + 53) 52 19 [(3, .int (nI q.1)), (1, .int q.2.1), (2, .int (nI p)), (0, .ref K)] [] q.2.2 (tkE σ K st n u m l) := by
    intro p l0 T hp he
    refine kX_while (fun q : Nat × Int32 × kS => [(3, .int (nI q.1)), (1, .int q.2.1), (2, .int (nI p)), (0, .ref K)]) (fun q => q.2.2) _ (fun q => 776 - q.1) ?_
    rintro ⟨i, v, τ⟩ ⟨i1, l', i2, i3, i4, i5, i6, i7⟩ ih
    dsimp only at i1 i2 i3 i4 i5 i6 i7 ih ⊢
    have hl7 := (iE_len i2).2
    have hc := nP_c h.1 i4
    obtain ⟨f, hf⟩ : ∃ f, 1001 - i = f + 1 := ⟨1000 - i, by omega⟩
    rw [hf] at i7
    unfold trP at i7
    rw [kTr_len] at i7
    iterate 2 (refine kX_one rfl ?_)
    refine kX_getN rfl rfl (kT_kn h.1) rfl ?_
    refine kX_top (i2.2.2.2.2.2.2.2.1.1) ?_
    repeat refine kX_one rfl ?_
    refine kX_if (fun q => ?_) (fun q => ?_)
    · have q := qge q i l'.length
      rw [if_neg (by omega)] at i7
      rw [i6]
      exact kX_lv _ rfl rfl rfl (he τ l' i2 i3 i4 i5 i7)
    · have q := qgeF q i l'.length
      rw [if_pos q] at i7
      iterate 2 (refine kX_one rfl ?_)
      repeat refine kX_one rfl ?_
      refine kX_if (fun q2 => ?_) (fun q2 => ?_)
      · have q2 := qge q2 i 776
        omega
      · have k51 : ∀ τ' l'' v', iE τ' K st n u m l'' → τ' K 13 = 0 → nP σ τ' K → l0.length ≤ l''.length → v' = isB (l0.length < l''.length) → kTr τ' l'' = trK (mA σ) (σ 238) (kTr τ l') i → kX kT L xs (d + 53) 52 51 [(3, .int (nI i)), (1, .int v), (2, .int (nI p)), (0, .ref K)] [.int v'] τ' (tkE σ K st n u m l) := by
          intro τ' l'' v' x1 x2 x3 x4 x5 x6
          iterate 3 (refine kX_one rfl ?_)
          have := ih (i + 1, v', τ') ⟨by simp only; omega, l'', x1, x2, x3, x4, x5, by
            simp only
            rw [x6, ← i7, show 1001 - (i + 1) = f by omega]⟩ (by simp only; omega)
          dsimp only at this
          rw [← nI_1] at this
          exact kX_lv _ rfl rfl rfl this
        iterate 2 (refine kX_one rfl ?_)
        refine kX_cal (mf_takeAt L xs d τ K st n u m i l' i2 i3 q) rfl (Or.inr rfl) rfl (jcall_v rfl rfl rfl (kT_kn h.1) rfl rfl) rfl (fun r1 σ1 q1 => ?_)
        obtain ⟨l'', rfl, j1, j2, j3, j4, j5⟩ := q1
        rw [mA_c hc, hc 238 (by decide)] at j5
        repeat refine kX_one rfl ?_
        refine kX_if (fun q => ?_) (fun q => ?_)
        · have q : l'.length < l''.length := isB_ne.mp (qne q)
          iterate 2 (refine kX_one rfl ?_)
          exact k51 σ1 l'' 1 j2 j3 (nP_trans i4 j4) (by omega) (isB_T (by omega)).symm j5
        · have q : ¬ l'.length < l''.length := fun z => isB_ne.mpr z (qneF q)
          iterate 1 (refine kX_one rfl ?_)
          repeat refine kX_one rfl ?_
          refine kX_if (fun q3 => ?_) (fun q3 => ?_)
          · have q3 : ¬ l0.length < l'.length := fun z => isB_ne.mpr z (i6.symm.trans (qeq q3))
            iterate 1 (refine kX_one rfl ?_)
            exact k51 σ1 l'' 0 j2 j3 (nP_trans i4 j4) (by omega) (isB_F (by omega)).symm j5
          · have q3 : l0.length < l'.length := isB_ne.mp (fun z => qeqF q3 (i6.trans z))
            iterate 2 (refine kX_one rfl ?_)
            exact k51 σ1 l'' 1 j2 j3 (nP_trans i4 j4) (by omega) (isB_T (by omega)).symm j5
  have outer : ∀ q : Nat × Int32 × kS, (q.1 ≤ 777 ∧ ∃ l', iE q.2.2 K st n u m l' ∧ q.2.2 K 13 = 0 ∧ nP σ q.2.2 K ∧ ((q.2.1 = 1 ∧ q.1 ≤ l'.length ∧ trE (mA σ) (σ 238) (1001 - q.1) (kTr q.2.2 l') = trE (mA σ) (σ 238) 1001 (kTr σ l)) ∨ (q.2.1 = 0 ∧ kTr q.2.2 l' = trE (mA σ) (σ 238) 1001 (kTr σ l)))) → kX kT L xs (d + 53) 52 4 [(2, .int (nI q.1)), (1, .int q.2.1), (0, .ref K)] [] q.2.2 (tkE σ K st n u m l) := by
    refine kX_while (fun q : Nat × Int32 × kS => [(2, .int (nI q.1)), (1, .int q.2.1), (0, .ref K)]) (fun q => q.2.2) _ (fun q => 777 - q.1) ?_
    rintro ⟨p, v, τ⟩ ⟨i1, l', i2, i3, i4, i5⟩ ih
    dsimp only at i1 i2 i3 i4 i5 ih ⊢
    have hl7 := (iE_len i2).2
    iterate 2 (refine kX_one rfl ?_)
    repeat refine kX_one rfl ?_
    refine kX_if (fun q => ?_) (fun q => ?_)
    · have q := qgt q p 776
      rcases i5 with ⟨rfl, i5, i6⟩ | ⟨rfl, i5⟩
      · omega
      · exact k64 τ l' _ i2 i3 i4 i5 rfl rfl
    · have q := qgtF q p 776
      iterate 1 (refine kX_one rfl ?_)
      rcases i5 with ⟨rfl, i5, i6⟩ | ⟨rfl, i5⟩
      · obtain ⟨f, hf⟩ : ∃ f, 1001 - p = f + 1 := ⟨1000 - p, by omega⟩
        rw [hf] at i6
        unfold trE at i6
        iterate 5 (refine kX_one rfl ?_)
        refine kX_lv _ rfl rfl rfl (inner p l' (trP (mA σ) (σ 238) 1001 0 (kTr τ l')) q (fun τ' l'' x1 x2 x3 x4 x5 => ?_) (0, 0, τ) ⟨Nat.zero_le _, l', i2, i3, i4, Nat.le_refl _, (isB_F (by omega)).symm, rfl⟩)
        rw [← x5, kTr_len, kTr_len] at i6
        iterate 2 (refine kX_one rfl ?_)
        by_cases z : l'.length < l''.length
        · rw [if_pos z] at i6
          rw [isB_T z]
          have := ih (p + 1, 1, τ') ⟨by simp only; omega, l'', x1, x2, x3, Or.inl ⟨rfl, by simp only; omega, by
            simp only
            rw [show 1001 - (p + 1) = f by omega]
            exact i6⟩⟩ (by simp only; omega)
          dsimp only at this
          rw [← nI_1] at this
          exact kX_lv _ rfl rfl rfl this
        · rw [if_neg z] at i6
          rw [isB_F z]
          have := ih (p + 1, 0, τ') ⟨by simp only; omega, l'', x1, x2, x3, Or.inr ⟨rfl, i6⟩⟩ (by simp only; omega)
          dsimp only at this
          rw [← nI_1] at this
          exact kX_lv _ rfl rfl rfl this
      · iterate 1 (refine kX_one rfl ?_)
        exact k64 τ l' _ i2 i3 i4 i5 rfl rfl
  iterate 4 (refine kX_one rfl ?_)
  exact kX_lv _ rfl rfl rfl (outer (0, 1, σ) ⟨Nat.zero_le _, l, h, hw, nP_refl (iE_nR h), Or.inl ⟨rfl, Nat.zero_le _, rfl⟩⟩)
