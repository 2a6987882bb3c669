/-! alike: the reference's isThere -/
def sm1 (σ : kS) (i s : Nat) : Prop := σ 284 (4 * i + s) = σ 264 s ∧ ∀ k, k < 6 → σ 285 (24 * i + 6 * s + k) = σ 265 (6 * s + k)
/-- the STATE i is the one that stands in doing and value -/
def smS (σ : kS) (S i : Nat) : Prop := ∀ s, s < S → sm1 σ i s
set_option maxRecDepth 100000 in
set_option maxHeartbeats 4000000 in
theorem mf_isThere (L : Nat) (xs : Nat → Int32) (d : Nat) (σ : kS) (S N : Nat) (hS : σ 232 27 = nI S) (hS4 : S ≤ 4) (hN : σ 232 69 = nI N) (hN6 : N ≤ 600) : kXM kT L xs (d + 1) 212 [.ref 232] σ (fun r σ' => r = some (.int (isB (∃ i, i < N ∧ smS σ S i))) ∧ σ = σ') := by
  unfold kXM
  have k127 : ∀ (P : Prop), (P ↔ ∃ i, i < N ∧ smS σ S i) → ∀ lv, nk lv = true → ([(1, Value.int (isB P))] : jL).map (fun q => jl lv q.1) = ([(1, Value.int (isB P))] : jL).map (fun q => some q.2) → kX kT L xs (d + 1) 212 127 lv [] σ (fun r σ' => r = some (.int (isB (∃ i, i < N ∧ smS σ S i))) ∧ σ = σ') := by
    intro P hP lv hk hlv
    refine kX_lv _ hk rfl hlv ?_
    rw [← isB_iff hP]
    repeat refine kX_one rfl ?_
    refine kX_ret (i := .ireturn) (len := 1) rfl (Or.inr rfl) (jend_b rfl (isB_01 P)) (⟨rfl, rfl⟩)
  have loopA : ∀ q : Nat × Prop, (q.1 ≤ N ∧ (q.2 ↔ ∃ j, j < q.1 ∧ smS σ S j)) → kX kT L xs (d + 1) 212 4 [(2, .int (nI q.1)), (1, .int (isB q.2)), (0, .ref 232)] [] σ (fun r σ' => r = some (.int (isB (∃ i, i < N ∧ smS σ S i))) ∧ σ = σ') := by
    refine kX_while (fun q : Nat × Prop => [(2, .int (nI q.1)), (1, .int (isB q.2)), (0, .ref 232)]) (fun _ => σ) (fun q => q.1 ≤ N ∧ (q.2 ↔ ∃ j, j < q.1 ∧ smS σ S j)) (fun q => N - q.1) ?_
    rintro ⟨i, P⟩ ⟨i1, i2⟩ ih
    dsimp only at i1 i2 ih ⊢
    have k121 : i < N → ¬ P → ∀ (P' : Prop), (P' ↔ smS σ S i) → ∀ lv, nk lv = true → ([(2, .int (nI i)), (1, Value.int (isB P')), (0, .ref 232)] : jL).map (fun q => jl lv q.1) = ([(2, .int (nI i)), (1, Value.int (isB P')), (0, .ref 232)] : jL).map (fun q => some q.2) → kX kT L xs (d + 1) 212 121 lv [] σ (fun r σ' => r = some (.int (isB (∃ i, i < N ∧ smS σ S i))) ∧ σ = σ') := by
      intro hiN hnP P' hP' lv hk hlv
      refine kX_lv _ hk rfl hlv ?_
      iterate 2 (refine kX_one rfl ?_)
      have := ih (i + 1, P') ⟨hiN, by
        simp only
        rw [hP']
        refine ⟨fun z => ⟨i, by omega, z⟩, fun ⟨j, j1, j2⟩ => ?_⟩
        by_cases e : j = i
        · exact e ▸ j2
        · exact absurd (i2.mpr ⟨j, by omega, j2⟩) hnP⟩ (by simp only; omega)
      dsimp only at this
      rw [← nI_1] at this
      exact kX_lv _ rfl rfl rfl this
    have loopB : i < N → ¬ P → ∀ q : Nat × Prop, (q.1 ≤ S ∧ (q.2 ↔ ∀ s, s < q.1 → sm1 σ i s)) → kX kT L xs (d + 1) 212 20 [(3, .int (nI q.1)), (2, .int (nI i)), (1, .int (isB q.2)), (0, .ref 232)] [] σ (fun r σ' => r = some (.int (isB (∃ i, i < N ∧ smS σ S i))) ∧ σ = σ') := by
      intro hiN hnP
      refine kX_while (fun q : Nat × Prop => [(3, .int (nI q.1)), (2, .int (nI i)), (1, .int (isB q.2)), (0, .ref 232)]) (fun _ => σ) (fun q => q.1 ≤ S ∧ (q.2 ↔ ∀ s, s < q.1 → sm1 σ i s)) (fun q => S - q.1) ?_
      rintro ⟨s, PB⟩ ⟨j1, j2⟩ ih2
      dsimp only at j1 j2 ih2 ⊢
      have k115 : s < S → ∀ (P' : Prop), (P' ↔ ∀ s', s' < s + 1 → sm1 σ i s') → ∀ lv, nk lv = true → ([(3, .int (nI s)), (2, .int (nI i)), (1, Value.int (isB P')), (0, .ref 232)] : jL).map (fun q => jl lv q.1) = ([(3, .int (nI s)), (2, .int (nI i)), (1, Value.int (isB P')), (0, .ref 232)] : jL).map (fun q => some q.2) → kX kT L xs (d + 1) 212 115 lv [] σ (fun r σ' => r = some (.int (isB (∃ i, i < N ∧ smS σ S i))) ∧ σ = σ') := by
        intro hsS P' hP' lv hk hlv
        refine kX_lv _ hk rfl hlv ?_
        iterate 2 (refine kX_one rfl ?_)
        have := ih2 (s + 1, P') ⟨hsS, hP'⟩ (by simp only; omega)
        dsimp only at this
        rw [← nI_1] at this
        exact kX_lv _ rfl rfl rfl this
      have loopC : s < S → (∀ s', s' < s → sm1 σ i s') → ∀ q : Nat × Prop, (q.1 ≤ 6 ∧ (q.2 ↔ σ 284 (4 * i + s) = σ 264 s ∧ ∀ k, k < q.1 → σ 285 (24 * i + 6 * s + k) = σ 265 (6 * s + k))) → kX kT L xs (d + 1) 212 60 [(4, .int (nI q.1)), (3, .int (nI s)), (2, .int (nI i)), (1, .int (isB q.2)), (0, .ref 232)] [] σ (fun r σ' => r = some (.int (isB (∃ i, i < N ∧ smS σ S i))) ∧ σ = σ') := by
        intro hsS hbe
        refine kX_while (fun q : Nat × Prop => [(4, .int (nI q.1)), (3, .int (nI s)), (2, .int (nI i)), (1, .int (isB q.2)), (0, .ref 232)]) (fun _ => σ) (fun q => q.1 ≤ 6 ∧ (q.2 ↔ σ 284 (4 * i + s) = σ 264 s ∧ ∀ k, k < q.1 → σ 285 (24 * i + 6 * s + k) = σ 265 (6 * s + k))) (fun q => 6 - q.1) ?_
        rintro ⟨k, PC⟩ ⟨l1, l2⟩ ih3
        dsimp only at l1 l2 ih3 ⊢
        have k108 : k < 6 → ∀ (P' : Prop), (P' ↔ σ 284 (4 * i + s) = σ 264 s ∧ ∀ k', k' < k + 1 → σ 285 (24 * i + 6 * s + k') = σ 265 (6 * s + k')) → kX kT L xs (d + 1) 212 108 [(4, .int (nI k)), (3, .int (nI s)), (2, .int (nI i)), (1, .int (isB PC)), (0, .ref 232)] [.int (isB P')] σ (fun r σ' => r = some (.int (isB (∃ i, i < N ∧ smS σ S i))) ∧ σ = σ') := by
          intro hk6 P' hP'
          iterate 3 (refine kX_one rfl ?_)
          have := ih3 (k + 1, P') ⟨hk6, hP'⟩ (by simp only; omega)
          dsimp only at this
          rw [← nI_1] at this
          exact kX_lv _ rfl rfl rfl this
        have hex : (PC ↔ sm1 σ i s) → (PC ↔ ∀ s', s' < s + 1 → sm1 σ i s') := fun hh => by
          rw [hh]
          refine ⟨fun z s' hs' => ?_, fun z => z s (by omega)⟩
          by_cases e : s' = s
          · exact e ▸ z
          · exact hbe s' (by omega)
        repeat refine kX_one rfl ?_
        refine kX_if (fun q => ?_) (fun q => ?_)
        · have q := qge q k 6
          obtain rfl : k = 6 := by omega
          exact k115 hsS PC (hex l2) _ rfl rfl
        · have q := qgeF q k 6
          repeat refine kX_one rfl ?_
          refine kX_if (fun q2 => ?_) (fun q2 => ?_)
          · have q2 : ¬ PC := fun z => isB_ne.mpr z (qeq q2)
            refine k115 hsS PC (hex ⟨fun z => absurd z q2, fun z => absurd (l2.mpr ⟨z.1, fun k' hk' => z.2 k' (by omega)⟩) q2⟩) _ rfl rfl
          · have q2 : PC := isB_ne.mp (qeqF q2)
            have hl := l2.mp q2
            repeat refine kX_one rfl ?_
            refine kX_ialdN rfl rfl (by decide) (24 * i + 6 * s + k) (ix24 i s k) (by omega) ?_
            repeat refine kX_one rfl ?_
            refine kX_ialdN rfl rfl (by decide) (6 * s + k) (ix6 s k) (by omega) ?_
            repeat refine kX_one rfl ?_
            refine kX_if (fun q3 => ?_) (fun q3 => ?_)
            · have q3 := qne q3
              iterate 1 (refine kX_one rfl ?_)
              have := k108 q False ⟨fun z => z.elim, fun z => q3 (z.2 k (by omega))⟩
              rw [isB_F (fun z => z)] at this
              exact this
            · have q3 := qneF q3
              iterate 2 (refine kX_one rfl ?_)
              have := k108 q True ⟨fun _ => ⟨hl.1, fun k' hk' => by
                by_cases e : k' = k
                · exact e ▸ q3
                · exact hl.2 k' (by omega)⟩, fun _ => trivial⟩
              rw [isB_T trivial] at this
              exact this
      have k56 : s < S → (∀ s', s' < s → sm1 σ i s') → ∀ (P' : Prop), (P' ↔ σ 284 (4 * i + s) = σ 264 s) → kX kT L xs (d + 1) 212 56 [(3, .int (nI s)), (2, .int (nI i)), (1, .int (isB PB)), (0, .ref 232)] [.int (isB P')] σ (fun r σ' => r = some (.int (isB (∃ i, i < N ∧ smS σ S i))) ∧ σ = σ') := by
        intro hsS hbe P' hP'
        iterate 3 (refine kX_one rfl ?_)
        exact kX_lv _ rfl rfl rfl (loopC hsS hbe (0, P') ⟨Nat.zero_le _, by simp only; rw [hP']; exact ⟨fun z => ⟨z, fun k hk => absurd hk (Nat.not_lt_zero k)⟩, fun z => z.1⟩⟩)
      iterate 3 (refine kX_one rfl ?_)
      refine kX_top (hS) ?_
      repeat refine kX_one rfl ?_
      refine kX_if (fun q => ?_) (fun q => ?_)
      · have q := qge q s S
        obtain rfl : s = S := by omega
        exact k121 hiN hnP PB j2 _ rfl rfl
      · have q := qgeF q s S
        repeat refine kX_one rfl ?_
        refine kX_if (fun q2 => ?_) (fun q2 => ?_)
        · have q2 : ¬ PB := fun z => isB_ne.mpr z (qeq q2)
          exact k121 hiN hnP PB ⟨fun z => absurd z q2, fun z => absurd (j2.mpr (fun s' hs' => z s' (by omega))) q2⟩ _ rfl rfl
        · have q2 : PB := isB_ne.mp (qeqF q2)
          have hbe := j2.mp q2
          repeat refine kX_one rfl ?_
          refine kX_ialdN rfl rfl (by decide) (4 * i + s) (ix4 i s) (by omega) ?_
          repeat refine kX_one rfl ?_
          refine kX_ialdN rfl rfl (by decide) (s) (by first | rfl | decide) (by omega) ?_
          repeat refine kX_one rfl ?_
          refine kX_if (fun q3 => ?_) (fun q3 => ?_)
          · have q3 := qne q3
            iterate 1 (refine kX_one rfl ?_)
            have := k56 q hbe False ⟨fun z => z.elim, fun z => q3 z⟩
            rw [isB_F (fun z => z)] at this
            exact this
          · have q3 := qneF q3
            iterate 2 (refine kX_one rfl ?_)
            have := k56 q hbe True ⟨fun _ => q3, fun _ => trivial⟩
            rw [isB_T trivial] at this
            exact this
    iterate 3 (refine kX_one rfl ?_)
    refine kX_top (hN) ?_
    repeat refine kX_one rfl ?_
    refine kX_if (fun q => ?_) (fun q => ?_)
    · have q := qge q i N
      obtain rfl : i = N := by omega
      exact k127 P i2 _ rfl rfl
    · have q := qgeF q i N
      repeat refine kX_one rfl ?_
      refine kX_if (fun q2 => ?_) (fun q2 => ?_)
      · have q2 : P := isB_ne.mp (qne q2)
        obtain ⟨j, z1, z2⟩ := i2.mp q2
        exact k127 P ⟨fun _ => ⟨j, by omega, z2⟩, fun _ => q2⟩ _ rfl rfl
      · have q2 : ¬ P := fun z => isB_ne.mpr z (qneF q2)
        iterate 4 (refine kX_one rfl ?_)
        have := loopB q q2 (0, True) ⟨Nat.zero_le _, ⟨fun _ s hs => absurd hs (Nat.not_lt_zero s), fun _ => trivial⟩⟩
        dsimp only at this
        rw [isB_T trivial] at this
        exact kX_lv _ rfl rfl rfl this
  iterate 4 (refine kX_one rfl ?_)
  have := loopA (0, False) ⟨Nat.zero_le _, ⟨fun z => z.elim, fun ⟨j, z, _⟩ => absurd z (Nat.not_lt_zero j)⟩⟩
  dsimp only at this
  rw [isB_F (fun z => z)] at this
  exact kX_lv _ rfl rfl rfl this
