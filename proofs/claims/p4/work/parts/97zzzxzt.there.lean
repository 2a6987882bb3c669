section
/-! alike: the reference's isThere -/
def sm1 (σ : kS) (i s : Nat) : Prop := σ 284 (4 * i + s) = σ 264 s ∧ ∀ k, k < 6 → σ 285 (24 * i + 6 * s + k) = σ 265 (6 * s + k)
/-- the STATE i is the one that stands in doing and value -/
def smS (σ : kS) (S i : Nat) : Prop := ∀ s, s < S → sm1 σ i s
set_option maxRecDepth 100000 in
set_option maxHeartbeats 4000000 in
theorem mf_isThere (L : Nat) (xs : Nat → Int32) (d : Nat) (σ : kS) (S N : Nat) (hS : σ 232 27 = nI S) (hS4 : S ≤ 4) (hN : σ 232 69 = nI N) (hN6 : N ≤ 600) : kXM kT L xs (d + 1) 212 [.ref 232] σ (fun r σ' => r = some (.int (isB (∃ i, i < N ∧ smS σ S i))) ∧ σ = σ') := by
  unfold kXM
  have k127 : ∀ (P : Prop), (P ↔ ∃ i, i < N ∧ smS σ S i) → ∀ lv, nk lv = true → ([(1, Value.int (isB P))] : jL).map (fun q => jl lv q.1) = ([(1, Value.int (isB P))] : jL).map (fun q => some q.2) → kX kT L xs (d + 1) 212 127 lv [] σ (fun r σ' => r = some (.int (isB (∃ i, i < N ∧ smS σ S i))) ∧ σ = σ') := by
    intro P hP lv hk hlv
    refine kX_lv _ hk rfl hlv ?_
    rw [← isB_iff hP]
    repeat refine kX_one rfl ?_
    refine kX_ret (i := .ireturn) (len := 1) rfl (Or.inr rfl) (jend_b rfl (isB_01 P)) (⟨rfl, rfl⟩)
  have loopA : ∀ q : Nat × Prop, (q.1 ≤ N ∧ (q.2 ↔ ∃ j, j < q.1 ∧ smS σ S j)) → kX kT L xs (d + 1) 212 4 [(2, .int (nI q.1)), (1, .int (isB q.2)), (0, .ref 232)] [] σ (fun r σ' => r = some (.int (isB (∃ i, i < N ∧ smS σ S i))) ∧ σ = σ') := by
    refine kX_while (fun q : Nat × Prop => [(2, .int (nI q.1)), (1, .int (isB q.2)), (0, .ref 232)]) (fun _ => σ) (fun q => q.1 ≤ N ∧ (q.2 ↔ ∃ j, j < q.1 ∧ smS σ S j)) (fun q => N - q.1) ?_
    rintro ⟨i, P⟩ ⟨i1, i2⟩ ih
    dsimp only at i1 i2 ih ⊢
    have k121 : i < N → ¬ P → ∀ (P' : Prop), (P' ↔ smS σ S i) → ∀ lv, nk lv = true → ([(2, .int (nI i)), (1, Value.int (isB P')), (0, .ref 232)] : jL).map (fun q => jl lv q.1) = ([(2, .int (nI i)), (1, Value.int (isB P')), (0, .ref 232)] : jL).map (fun q => some q.2) → kX kT L xs (d + 1) 212 121 lv [] σ (fun r σ' => r = some (.int (isB (∃ i, i < N ∧ smS σ S i))) ∧ σ = σ') := by
      intro hiN hnP P' hP' lv hk hlv
      refine kX_lv _ hk rfl hlv ?_
      iterate 2 (refine kX_one rfl ?_)
      have := ih (i + 1, P') ⟨hiN, by
        simp only
        rw [hP']
        refine ⟨fun z => ⟨i, by omega, z⟩, fun ⟨j, j1, j2⟩ => ?_⟩
        by_cases e : j = i
        · exact e ▸ j2
        · exact absurd (i2.mpr ⟨j, by omega, j2⟩) hnP⟩ (by simp only; omega)
      dsimp only at this
      rw [← nI_1] at this
      exact kX_lv _ rfl rfl rfl this
    have loopB : i < N → ¬ P → ∀ q : Nat × Prop, (q.1 ≤ S ∧ (q.2 ↔ ∀ s, s < q.1 → sm1 σ i s)) → kX kT L xs (d + 1) 212 20 [(3, .int (nI q.1)), (2, .int (nI i)), (1, .int (isB q.2)), (0, .ref 232)] [] σ (fun r σ' => r = some (.int (isB (∃ i, i < N ∧ smS σ S i))) ∧ σ = σ') := by
      intro hiN hnP
      refine kX_while (fun q : Nat × Prop => [(3, .int (nI q.1)), (2, .int (nI i)), (1, .int (isB q.2)), (0, .ref 232)]) (fun _ => σ) (fun q => q.1 ≤ S ∧ (q.2 ↔ ∀ s, s < q.1 → sm1 σ i s)) (fun q => S - q.1) ?_
      rintro ⟨s, PB⟩ ⟨j1, j2⟩ ih2
      dsimp only at j1 j2 ih2 ⊢
      have k115 : s < S → ∀ (P' : Prop), (P' ↔ ∀ s', s' < s + 1 → sm1 σ i s') → ∀ lv, nk lv = true → ([(3, .int (nI s)), (2, .int (nI i)), (1, Value.int (isB P')), (0, .ref 232)] : jL).map (fun q => jl lv q.1) = ([(3, .int (nI s)), (2, .int (nI i)), (1, Value.int (isB P')), (0, .ref 232)] : jL).map (fun q => some q.2) → kX kT L xs (d + 1) 212 115 lv [] σ (fun r σ' => r = some (.int (isB (∃ i, i < N ∧ smS σ S i))) ∧ σ = σ') := by
        intro hsS P' hP' lv hk hlv
        refine kX_lv _ hk rfl hlv ?_
        iterate 2 (refine kX_one rfl ?_)
        have := ih2 (s + 1, P') ⟨hsS, hP'⟩ (by simp only; omega)
        dsimp only at this
        rw [← nI_1] at this
        exact kX_lv _ rfl rfl rfl this
      have loopC : s < S → (∀ s', s' < s → sm1 σ i s') → ∀ q : Nat × Prop, (q.1 ≤ 6 ∧ (q.2 ↔ σ 284 (4 * i + s) = σ 264 s ∧ ∀ k, k < q.1 → σ 285 (24 * i + 6 * s + k) = σ 265 (6 * s + k))) → kX kT L xs (d + 1) 212 60 [(4, .int (nI q.1)), (3, .int (nI s)), (2, .int (nI i)), (1, .int (isB q.2)), (0, .ref 232)] [] σ (fun r σ' => r = some (.int (isB (∃ i, i < N ∧ smS σ S i))) ∧ σ = σ') := by
        intro hsS hbe
        refine kX_while (fun q : Nat × Prop => [(4, .int (nI q.1)), (3, .int (nI s)), (2, .int (nI i)), (1, .int (isB q.2)), (0, .ref 232)]) (fun _ => σ) (fun q => q.1 ≤ 6 ∧ (q.2 ↔ σ 284 (4 * i + s) = σ 264 s ∧ ∀ k, k < q.1 → σ 285 (24 * i + 6 * s + k) = σ 265 (6 * s + k))) (fun q => 6 - q.1) ?_
        rintro ⟨k, PC⟩ ⟨l1, l2⟩ ih3
        dsimp only at l1 l2 ih3 ⊢
        have k108 : k < 6 → ∀ (P' : Prop), (P' ↔ σ 284 (4 * i + s) = σ 264 s ∧ ∀ k', k' < k + 1 → σ 285 (24 * i + 6 * s + k') = σ 265 (6 * s + k')) → kX kT L xs (d + 1) 212 108 [(4, .int (nI k)), (3, .int (nI s)), (2, .int (nI i)), (1, .int (isB PC)), (0, .ref 232)] [.int (isB P')] σ (fun r σ' => r = some (.int (isB (∃ i, i < N ∧ smS σ S i))) ∧ σ = σ') := by
          intro hk6 P' hP'
          iterate 3 (refine kX_one rfl ?_)
          have := ih3 (k + 1, P') ⟨hk6, hP'⟩ (by simp only; omega)
          dsimp only at this
          rw [← nI_1] at this
          exact kX_lv _ rfl rfl rfl this
        have hex : (PC ↔ sm1 σ i s) → (PC ↔ ∀ s', s' < s + 1 → sm1 σ i s') := fun hh => by
          rw [hh]
          refine ⟨fun z s' hs' => ?_, fun z => z s (by omega)⟩
          by_cases e : s' = s
          · exact e ▸ z
          · exact hbe s' (by omega)
        repeat refine kX_one rfl ?_
        refine kX_if (fun q => ?_) (fun q => ?_)
        · have q := qge q k 6
          obtain rfl : k = 6 := by omega
          exact k115 hsS PC (hex l2) _ rfl rfl
        · have q := qgeF q k 6
          repeat refine kX_one rfl ?_
          refine kX_if (fun q2 => ?_) (fun q2 => ?_)
          · have q2 : ¬ PC := fun z => isB_ne.mpr z (qeq q2)
            refine k115 hsS PC (hex ⟨fun z => absurd z q2, fun z => absurd (l2.mpr ⟨z.1, fun k' hk' => z.2 k' (by omega)⟩) q2⟩) _ rfl rfl
          · have q2 : PC := isB_ne.mp (qeqF q2)
            have hl := l2.mp q2
            repeat refine kX_one rfl ?_
            refine kX_ialdN rfl rfl (by decide) (24 * i + 6 * s + k) (ix24 i s k) (by omega) ?_
            repeat refine kX_one rfl ?_
            refine kX_ialdN rfl rfl (by decide) (6 * s + k) (ix6 s k) (by omega) ?_
            repeat refine kX_one rfl ?_
            refine kX_if (fun q3 => ?_) (fun q3 => ?_)
            · have q3 := qne q3
              iterate 1 (refine kX_one rfl ?_)
              have := k108 q False ⟨fun z => z.elim, fun z => q3 (z.2 k (by omega))⟩
              rw [isB_F (fun z => z)] at this
              exact this
            · have q3 := qneF q3
              iterate 2 (refine kX_one rfl ?_)
              have := k108 q True ⟨fun _ => ⟨hl.1, fun k' hk' => by
                by_cases e : k' = k
                · exact e ▸ q3
                · exact hl.2 k' (by omega)⟩, fun _ => trivial⟩
              rw [isB_T trivial] at this
              exact this
      have k56 : s < S → (∀ s', s' < s → sm1 σ i s') → ∀ (P' : Prop), (P' ↔ σ 284 (4 * i + s) = σ 264 s) → kX kT L xs (d + 1) 212 56 [(3, .int (nI s)), (2, .int (nI i)), (1, .int (isB PB)), (0, .ref 232)] [.int (isB P')] σ (fun r σ' => r = some (.int (isB (∃ i, i < N ∧ smS σ S i))) ∧ σ = σ') := by
        intro hsS hbe P' hP'
        iterate 3 (refine kX_one rfl ?_)
        exact kX_lv _ rfl rfl rfl (loopC hsS hbe (0, P') ⟨Nat.zero_le _, by simp only; rw [hP']; exact ⟨fun z => ⟨z, fun k hk => absurd hk (Nat.not_lt_zero k)⟩, fun z => z.1⟩⟩)
      iterate 3 (refine kX_one rfl ?_)
      refine kX_top (hS) ?_
      repeat refine kX_one rfl ?_
      refine kX_if (fun q => ?_) (fun q => ?_)
      · have q := qge q s S
        obtain rfl : s = S := by omega
        exact k121 hiN hnP PB j2 _ rfl rfl
      · have q := qgeF q s S
        repeat refine kX_one rfl ?_
        refine kX_if (fun q2 => ?_) (fun q2 => ?_)
        · have q2 : ¬ PB := fun z => isB_ne.mpr z (qeq q2)
          exact k121 hiN hnP PB ⟨fun z => absurd z q2, fun z => absurd (j2.mpr (fun s' hs' => z s' (by omega))) q2⟩ _ rfl rfl
        · have q2 : PB := isB_ne.mp (qeqF q2)
          have hbe := j2.mp q2
          repeat refine kX_one rfl ?_
          refine kX_ialdN rfl rfl (by decide) (4 * i + s) (ix4 i s) (by omega) ?_
          repeat refine kX_one rfl ?_
          refine kX_ialdN rfl rfl (by decide) (s) (by first | rfl | decide) (by omega) ?_
          repeat refine kX_one rfl ?_
          refine kX_if (fun q3 => ?_) (fun q3 => ?_)
          · have q3 := qne q3
            iterate 1 (refine kX_one rfl ?_)
            have := k56 q hbe False ⟨fun z => z.elim, fun z => q3 z⟩
            rw [isB_F (fun z => z)] at this
            exact this
          · have q3 := qneF q3
            iterate 2 (refine kX_one rfl ?_)
            have := k56 q hbe True ⟨fun _ => q3, fun _ => trivial⟩
            rw [isB_T trivial] at this
            exact this
    iterate 3 (refine kX_one rfl ?_)
    refine kX_top (hN) ?_
    repeat refine kX_one rfl ?_
    refine kX_if (fun q => ?_) (fun q => ?_)
    · have q := qge q i N
      obtain rfl : i = N := by omega
      exact k127 P i2 _ rfl rfl
    · have q := qgeF q i N
      repeat refine kX_one rfl ?_
      refine kX_if (fun q2 => ?_) (fun q2 => ?_)
      · have q2 : P := isB_ne.mp (qne q2)
        obtain ⟨j, z1, z2⟩ := i2.mp q2
        exact k127 P ⟨fun _ => ⟨j, by omega, z2⟩, fun _ => q2⟩ _ rfl rfl
      · have q2 : ¬ P := fun z => isB_ne.mpr z (qneF q2)
        iterate 4 (refine kX_one rfl ?_)
        have := loopB q q2 (0, True) ⟨Nat.zero_le _, ⟨fun _ s hs => absurd hs (Nat.not_lt_zero s), fun _ => trivial⟩⟩
        dsimp only at this
        rw [isB_T trivial] at this
        exact kX_lv _ rfl rfl rfl this
  iterate 4 (refine kX_one rfl ?_)
  have := loopA (0, False) ⟨Nat.zero_le _, ⟨fun z => z.elim, fun ⟨j, z, _⟩ => absurd z (Nat.not_lt_zero j)⟩⟩
  dsimp only at this
  rw [isB_F (fun z => z)] at this
  exact kX_lv _ rfl rfl rfl this
end
section
/-! alike: noteAttack -/
def naP (σ : kS) (n R S N : Nat) (r : Option Value) (σ' : kS) : Prop := r = none ∧ ∃ AS AT l0, σ' = naS σ AS AT (nI l0.length) ∧ mAk σ' n R S ∧ pthR σ (N - 1) l0 ∧ pthB σ S N (N - 1) l0 ∧ l0.length ≤ 24 ∧ ∀ p z, l0.reverse[p]? = some z → AS p = nI z.1 ∧ AT p = nI z.2
set_option maxRecDepth 100000 in
set_option maxHeartbeats 4000000 in
theorem mf_noteAttack (L : Nat) (xs : Nat → Int32) (d : Nat) (σ : kS) (n b R S N : Nat) (h : mTb σ n b) (hR : mRo σ n R) (hS4 : S ≤ 4) (hS : mSs σ n R S N) (hN : 0 < N) : kXM kT L xs (d + 1) 219 [.ref 232] σ (naP σ n R S N) := by
  have hN6 := hS.1
  obtain ⟨l0, hp, hP⟩ := pth_ex hS (N - 1) (by omega)
  have h24 := pth_24 hR hS4 hS hN hP
  have hst : σ 232 69 = nI (N - 1 + 1) := by rw [hS.2.1, show N - 1 + 1 = N by omega]
  unfold kXM
  have loop2 : ∀ q : List (Nat × Nat) × Nat × (Nat → Int32) × (Nat → Int32), ((∃ l1, l0 = l1 ++ q.1) ∧ q.2.1 < 600 ∧ pthR σ q.2.1 q.1 ∧ ∀ p z, q.1.length ≤ p → l0.reverse[p]? = some z → q.2.2.1 p = nI z.1 ∧ q.2.2.2 p = nI z.2) → kX kT L xs (d + 1) 219 38 [(2, .int (nI q.2.1)), (1, .int (nI q.1.length)), (0, .ref 232)] [] (naS σ q.2.2.1 q.2.2.2 (nI l0.length)) (naP σ n R S N) := by
    refine kX_while (fun q : List (Nat × Nat) × Nat × (Nat → Int32) × (Nat → Int32) => [(2, .int (nI q.2.1)), (1, .int (nI q.1.length)), (0, .ref 232)]) (fun q => naS σ q.2.2.1 q.2.2.2 (nI l0.length)) _ (fun q => q.1.length) ?_
    rintro ⟨l, t, AS, AT⟩ ⟨⟨l1, i1⟩, i2, i3, i4⟩ ih
    dsimp only at i1 i2 i3 i4 ih ⊢
    rcases l with _ | ⟨⟨m, t'⟩, l⟩
    · have i3 : t = 0 := i3
      subst i3
      iterate 2 (refine kX_one rfl ?_)
      refine kX_ret (i := .return_) (len := 1) rfl (Or.inr rfl) rfl (⟨rfl, AS, AT, l0, rfl, naS_Ak h hR hS4 hS hN hP h24 (fun p z hz => i4 p z (Nat.zero_le _) hz), hp, hP, h24, fun p z hz => i4 p z (Nat.zero_le _) hz⟩)
    · obtain ⟨rfl, j0, j1, j, j2, j3, j4⟩ := i3
      have hll : l.length < 24 := by
        have := congrArg List.length i1
        simp at this
        omega
      have hat : l0.reverse[l.length]? = some (m, t') := by
        rw [i1, List.reverse_append, List.reverse_cons, List.append_assoc, List.getElem?_append_right (by simp)]
        simp
      iterate 1 (refine kX_one rfl ?_)
      repeat refine kX_one rfl ?_
      refine kX_ifF (decide_eq_false (nI_nle (by omega) (by omega))) ?_
      iterate 1 (refine kX_one rfl ?_)
      refine kX_lv [(2, .int (nI t')), (1, .int (nI l.length)), (0, .ref 232)] rfl rfl ?_ ?_
      · rw [show nI l.length = nI (l.length + 1) + Int32.ofInt (-1) from (pk_m1 _).symm]
        rfl
      iterate 6 (refine kX_one rfl ?_)
      refine kX_ialdV rfl rfl (by decide) (t') (by first | rfl | decide) (i2) (j1) ?_
      refine kX_iastN rfl rfl (by decide) (l.length) (by first | rfl | decide) (by omega) ?_
      iterate 4 (refine kX_one rfl ?_)
      refine kX_iastN rfl rfl (by decide) (l.length) (by first | rfl | decide) (by omega) ?_
      iterate 3 (refine kX_one rfl ?_)
      refine kX_ialdV rfl rfl (by decide) (t') (by first | rfl | decide) (i2) (j3) ?_
      iterate 2 (refine kX_one rfl ?_)
      have := ih (l, j, upd AS l.length (nI m), upd AT l.length (nI t')) ⟨⟨l1 ++ [(m, t')], by rw [i1]; simp⟩, by simp only; omega, j4, fun p z hpl hz => by
        simp only at hpl ⊢
        by_cases e : p = l.length
        · subst e
          rw [hat] at hz
          obtain rfl := Option.some.inj hz
          rw [pk_us, pk_us]
          exact ⟨rfl, rfl⟩
        · rw [pk_un e, pk_un e]
          exact i4 p z (by rw [List.length_cons]; omega) hz⟩ (by simp)
      dsimp only at this
      refine kX_to _ _ rfl rfl rfl ?_ this
      funext c; unfold naS va_up; repeat' split
      all_goals first | rfl | omega | (subst_vars; rfl) | (funext j; unfold upd; repeat' split; all_goals first | rfl | omega | (subst_vars; rfl))
  have loop1 : ∀ q : List (Nat × Nat) × Nat × Nat, (q.2.1 < 600 ∧ pthR σ q.2.1 q.1 ∧ q.2.2 + q.1.length = l0.length) → kX kT L xs (d + 1) 219 9 [(2, .int (nI q.2.1)), (1, .int (nI q.2.2)), (0, .ref 232)] [] σ (naP σ n R S N) := by
    refine kX_while (fun q : List (Nat × Nat) × Nat × Nat => [(2, .int (nI q.2.1)), (1, .int (nI q.2.2)), (0, .ref 232)]) (fun q => σ) _ (fun q => q.1.length) ?_
    rintro ⟨l, t, c⟩ ⟨i2, i3, i4⟩ ih
    dsimp only at i2 i3 i4 ih ⊢
    rcases l with _ | ⟨⟨m, t'⟩, l⟩
    · have i3 : t = 0 := i3
      subst i3
      have i4 : c = l0.length := i4
      subst i4
      iterate 7 (refine kX_one rfl ?_)
      refine kX_top (hst) ?_
      iterate 3 (refine kX_one rfl ?_)
      have := loop2 (l0, N - 1, σ 288, σ 289) ⟨⟨[], rfl⟩, by simp only; omega, hp, fun p z hpl hz => by
        have := (List.getElem?_eq_some_iff.mp hz).1
        simp at this hpl
        omega⟩
      dsimp only at this
      rw [← nI_pred] at this
      refine kX_to _ _ rfl rfl rfl ?_ this
      funext c; unfold naS va_up; repeat' split
      all_goals first | rfl | omega | (subst_vars; rfl) | (funext j; unfold upd; repeat' split; all_goals first | rfl | omega | (subst_vars; rfl))
    · obtain ⟨rfl, j0, j1, j, j2, j3, j4⟩ := i3
      iterate 1 (refine kX_one rfl ?_)
      repeat refine kX_one rfl ?_
      refine kX_ifF (decide_eq_false (nI_nle (by omega) (by omega))) ?_
      iterate 4 (refine kX_one rfl ?_)
      refine kX_ialdV rfl rfl (by decide) (t') (by first | rfl | decide) (i2) (j3) ?_
      iterate 2 (refine kX_one rfl ?_)
      have := ih (l, j, c + 1) ⟨by simp only; omega, j4, by
        simp only
        rw [List.length_cons] at i4
        omega⟩ (by simp)
      dsimp only at this
      rw [← nI_1] at this
      exact kX_lv _ rfl rfl rfl this
  iterate 4 (refine kX_one rfl ?_)
  refine kX_top (hst) ?_
  iterate 3 (refine kX_one rfl ?_)
  have := loop1 (l0, N - 1, 0) ⟨by simp only; omega, hp, by simp⟩
  dsimp only at this
  rw [← nI_pred] at this
  exact kX_lv _ rfl rfl rfl this
end
section
/-! alike: comesToBe, which claim breaks -/
/-- the reference's word for the class's answer -/
def cbR (C : Nat) (a : Int32) (r : Option Value) : Prop := (r = some (.int (-6)) ∧ a = 0) ∨ ∃ c, c < C ∧ r = some (.int (nI c)) ∧ a = nI (1 + c)
set_option maxRecDepth 100000 in
set_option maxHeartbeats 4000000 in
theorem mf_ce_brk (L : Nat) (xs : Nat → Int32) (d : Nat) (σ : kS) (n b R S C : Nat) (kl : List Nat) (l : rwT) (h : mTb σ n b) (hB : mBs σ n R S C kl) (hc : cfg σ n R S (σ 264) (σ 265)) (x y z : Int32) (Q : Option Value → kS → Prop)
    (he : ∀ r τ, cbR C (fsB (fun c => mBt σ (rwM σ l) c S) C 0) r → mFr σ τ n → (∃ b', mTb τ n b') → Q r τ) :
    ∀ q : Nat × kS, (q.1 ≤ C ∧ mFr σ q.2 n ∧ mTb q.2 n b ∧ mRq q.2 (mvG q.2 n b) l ∧ mJd q.2 n b l ∧ rwM q.2 l = rwM σ l ∧ ∀ c, c < q.1 → ¬ mBt σ (rwM σ l) c S) → kX kT L xs (d + 7) 213 201 [(4, .int (nI q.1)), (0, .ref 232), (1, .int x), (2, .int y), (3, .int z)] [] q.2 Q := by
  have hC6 := hB.2.2.2.1
  have hS4 := hB.2.1.1
  refine kX_while (fun q : Nat × kS => [(4, .int (nI q.1)), (0, .ref 232), (1, .int x), (2, .int y), (3, .int z)]) (fun q => q.2) _ (fun q => C - q.1) ?_
  rintro ⟨c, τ⟩ ⟨i1, i2, i3, i4, i5, i6, i7⟩ ih
  dsimp only at i1 i2 i3 i4 i5 i6 i7 ih ⊢
  have hB2 := mBs_sf h (mSf_fr i2) hB
  iterate 3 (refine kX_one rfl ?_)
  refine kX_top (hB2.2.2.2.2.1) ?_
  repeat refine kX_one rfl ?_
  refine kX_if (fun q => ?_) (fun q => ?_)
  · have q := qge q c C
    have hz : cbR C (fsB (fun c => mBt σ (rwM σ l) c S) C 0) (some (.int (-6))) := Or.inl ⟨rfl, fsB_no C 0 (fun c' _ h2 => i7 c' (by omega))⟩
    repeat refine kX_one rfl ?_
    refine kX_ret (i := .ireturn) (len := 1) rfl (Or.inr rfl) rfl (he _ τ hz i2 ⟨b, i3⟩)
  · have q := qgeF q c C
    have hc2 : cfg τ n R S (τ 264) (τ 265) := by
      rw [i2.1 264 (by decide), i2.1 265 (by decide)]
      exact cfg_sf h hB.1 (mSf_fr i2) hc
    have hbk := mBk_tr (l := l) h i2 hB.1 hB.2.2.2 q hS4 (cfg_Sv h hB.1 hB.2.1 hc)
    rw [i6] at hbk
    iterate 2 (refine kX_one rfl ?_)
    refine kX_cal (mr_isBroken L xs d τ n b R S C c l i3 hB2.1 hS4 (cfg_Sv i3 hB2.1 hB2.2.1 hc2) hB2.2.2.2 q i4 i5) rfl (Or.inr rfl) rfl rfl rfl (fun r1 σ2 q1 => ?_)
    obtain ⟨rfl, k1, -⟩ := q1
    repeat refine kX_one rfl ?_
    refine kX_if (fun q3 => ?_) (fun q3 => ?_)
    · have q3 : ¬ mBk τ l c S := fun w => isB_ne.mpr w (qeq q3)
      iterate 2 (refine kX_one rfl ?_)
      have := ih (c + 1, σ2) ⟨q, mFr_trans i2 k1.1, k1.2.1, k1.2.2.1, k1.2.2.2.1, k1.2.2.2.2.trans i6, fun c' hc' => by
        by_cases e : c' = c
        · subst e
          exact fun w => q3 (hbk.mpr w)
        · exact i7 c' (by simp only at hc'; omega)⟩ (by simp only; omega)
      dsimp only at this
      rw [← nI_1] at this
      exact kX_lv _ rfl rfl rfl this
    · have q3 : mBk τ l c S := isB_ne.mp (qeqF q3)
      have hz : cbR C (fsB (fun c => mBt σ (rwM σ l) c S) C 0) (some (.int (nI c))) := Or.inr ⟨c, q, rfl, fsB_at (P := fun c => mBt σ (rwM σ l) c S) (j := c) (hbk.mp q3) C 0 (Nat.zero_le _) (by omega) (fun c' _ h2 => i7 c' h2)⟩
      repeat refine kX_one rfl ?_
      refine kX_ret (i := .ireturn) (len := 1) rfl (Or.inr rfl) rfl (he _ σ2 hz (mFr_trans i2 k1.1) ⟨b, k1.2.1⟩)
end
section
/-! alike: comesToBe, a STATE is noted -/
/-- the session s has done all -/
def adN (σ : kS) (s : Nat) : Prop := σ 264 s = σ 247 (fN (σ 255 s))
set_option maxRecDepth 100000 in
set_option maxHeartbeats 4000000 in
theorem mf_ce_copy (L : Nat) (xs : Nat → Int32) (d : Nat) (σ : kS) (n R S N : Nat) (hS : mSe σ n R S) (hR : R ≤ 4) (hN : σ 232 69 = nI N) (hN6 : N < 600) (x y : Int32) (Q : Option Value → kS → Prop)
    (he : ∀ SD SV (P : Prop), (P ↔ ∀ s, s < S → adN σ s) → ceI σ N S SD SV → kX kT L xs (d + 1) 213 146 [(3, .int (isB P)), (0, .ref 232), (1, .int x), (2, .int y)] [] (ceS σ SD SV) Q) :
    ∀ q : Nat × Prop × (Nat → Int32) × (Nat → Int32), (q.1 ≤ S ∧ (q.2.1 ↔ ∀ s, s < q.1 → adN σ s) ∧ ceI σ N q.1 q.2.2.1 q.2.2.2) → kX kT L xs (d + 1) 213 28 [(4, .int (nI q.1)), (3, .int (isB q.2.1)), (0, .ref 232), (1, .int x), (2, .int y)] [] (ceS σ q.2.2.1 q.2.2.2) Q := by
  have hS4 := hS.1
  refine kX_while (fun q : Nat × Prop × (Nat → Int32) × (Nat → Int32) => [(4, .int (nI q.1)), (3, .int (isB q.2.1)), (0, .ref 232), (1, .int x), (2, .int y)]) (fun q => ceS σ q.2.2.1 q.2.2.2) _ (fun q => S - q.1) ?_
  rintro ⟨s, P, SD, SV⟩ ⟨i1, i0, i2, i3, i4, i5⟩ ih
  dsimp only at i1 i0 i2 i3 i4 i5 ih ⊢
  iterate 3 (refine kX_one rfl ?_)
  refine kX_top (hS.2.1) ?_
  repeat refine kX_one rfl ?_
  refine kX_if (fun q => ?_) (fun q => ?_)
  · have q := qge q s S
    obtain rfl : s = S := by omega
    exact kX_lv _ rfl rfl rfl (he SD SV P i0 ⟨i2, i3, i4, i5⟩)
  · have q := qgeF q s S
    obtain ⟨r, r1, r2, -⟩ := hS.2.2 s q
    have k89 : ∀ P' : Prop, (P' ↔ ∀ s', s' < s + 1 → adN σ s') → kX kT L xs (d + 1) 213 89 [(4, .int (nI s)), (3, .int (isB P)), (0, .ref 232), (1, .int x), (2, .int y)] [.int (isB P')] (ceS σ (upd SD (4 * N + s) (σ 264 s)) SV) Q := by
      intro P' hP'
      iterate 3 (refine kX_one rfl ?_)
      have := mr_ce_in L xs d σ N s hN hN6 (by omega) x y P' (upd SD (4 * N + s) (σ 264 s)) Q (fun SV' h' => by
        iterate 2 (refine kX_one rfl ?_)
        have := ih (s + 1, P', upd SD (4 * N + s) (σ 264 s), SV') ⟨q, hP', h'⟩ (by simp only; omega)
        dsimp only at this
        rw [← nI_1] at this
        exact kX_lv _ rfl rfl rfl this) (0, SV) ⟨Nat.zero_le _, fun j hj => by
          rw [pk_un (by omega)]
          exact i2 j hj, fun u hu => by
          by_cases e : u = s
          · subst e
            exact pk_us
          · rw [pk_un (by omega)]
            exact i3 u (by omega), i4, i5, fun k hk => absurd hk (Nat.not_lt_zero k)⟩
      exact kX_lv _ rfl rfl rfl this
    iterate 5 (refine kX_one rfl ?_)
    refine kX_top (hN) ?_
    iterate 6 (refine kX_one rfl ?_)
    refine kX_ialdN rfl rfl (by decide) (s) (by first | rfl | decide) (by omega) ?_
    refine kX_iastN rfl rfl (by decide) (4 * N + s) (ix4 N s) (by omega) ?_
    refine kX_to [(4, .int (nI s)), (3, .int (isB P)), (0, .ref 232), (1, .int x), (2, .int y)] (ceS σ (upd SD (4 * N + s) (σ 264 s)) SV) rfl rfl rfl ?_ ?_
    · funext c; unfold ceS va_up; repeat' split
      all_goals first | rfl | omega | (subst_vars; rfl) | (funext j; unfold upd; repeat' split; all_goals first | rfl | omega | (subst_vars; rfl))
    have hfr : fN (σ 255 s) = r := by rw [r2]; exact fN_nI (by omega)
    repeat refine kX_one rfl ?_
    refine kX_if (fun q2 => ?_) (fun q2 => ?_)
    · have q2 : ¬ P := fun w => isB_ne.mpr w (qeq q2)
      iterate 1 (refine kX_one rfl ?_)
      have := k89 False ⟨fun w => w.elim, fun w => q2 (i0.mpr (fun s' hs' => w s' (by omega)))⟩
      rw [isB_F (fun z => z)] at this
      exact this
    · have q2 : P := isB_ne.mp (qeqF q2)
      have hbe := i0.mp q2
      iterate 3 (refine kX_one rfl ?_)
      refine kX_ialdN rfl rfl (by decide) (s) (by first | rfl | decide) (by omega) ?_
      iterate 5 (refine kX_one rfl ?_)
      refine kX_ialdV rfl rfl (by decide) (s) (by first | rfl | decide) (by omega) (r2) ?_
      refine kX_ialdN rfl rfl (by decide) (r) (by first | rfl | decide) (by omega) ?_
      repeat refine kX_one rfl ?_
      refine kX_if (fun q3 => ?_) (fun q3 => ?_)
      · have q3 : σ 264 s ≠ σ 247 r := qne q3
        iterate 1 (refine kX_one rfl ?_)
        have := k89 False ⟨fun w => w.elim, fun w => by have w2 := w s (by omega); unfold adN at w2; rw [hfr] at w2; exact q3 w2⟩
        rw [isB_F (fun z => z)] at this
        exact this
      · have q3 : σ 264 s = σ 247 r := qneF q3
        iterate 2 (refine kX_one rfl ?_)
        have := k89 True ⟨fun _ s' hs' => by
          by_cases e : s' = s
          · subst e
            unfold adN
            rw [hfr]
            exact q3
          · exact hbe s' (by omega), fun _ => trivial⟩
        rw [isB_T trivial] at this
        exact this
end
section
/-! alike: comesToBe -/
theorem trSt_eq {σ τ : kS} {kl : List Nat} {S : Nat} (e1 : τ 233 = σ 233) (e2 : τ 234 = σ 234) (e3 : τ 235 = σ 235) (e4 : τ 265 = σ 265) (e5 : τ 241 = σ 241) (e6 : τ 249 = σ 249) (e7 : τ 248 = σ 248) (e8 : τ 255 = σ 255) (e9 : τ 238 = σ 238) (e10 : τ 264 = σ 264) : trSt τ kl S = trSt σ kl S := by
  have h1 : trKn τ kl = trKn σ kl := by
    unfold trKn
    rw [e1, e2, e3]
  have h2 : tin τ = tin σ := by
    funext s t
    unfold tin mVl
    rw [e1, e2, e3, e4, e5]
  have h3 : ∀ s tr k, trSe τ s tr k = trSe σ s tr k := by
    intro s tr k
    induction k with
    | zero => rfl
    | succ k ih =>
      unfold trSe mEv
      rw [ih, h2, e6, e7, e8]
  have h4 : ∀ tr s, trSs τ tr s = trSs σ tr s := by
    intro tr s
    induction s with
    | zero => rfl
    | succ s ih =>
      unfold trSs
      rw [ih, h3, e10]
  have h5 : mA τ = mA σ := by
    unfold mA
    rw [e1]
  unfold trSt
  rw [h1, h4, h5, e9]
/-- a STATE more -/
def ceG (σ σ' : kS) (S C N : Nat) (kl : List Nat) (x y : Int32) (r : Option Value) : Prop := cbR C (fsB (fun c => mBt σ (trSt σ kl S) c S) C 0) r ∧ σ' 232 69 = nI (N + 1) ∧ σ' 232 71 = σ 232 71 + isB (∀ s, s < S → adN σ s) ∧ (∀ j, j ∉ rowJ → j ≠ 69 → j ≠ 71 → σ' 232 j = σ 232 j) ∧ σ' 286 = upd (σ 286) N x ∧ σ' 287 = upd (σ 287) N y ∧ (∀ s, s < S → stD σ' N s = σ 264 s) ∧ ∀ s k, s < S → k < 6 → stV σ' N (6 * s + k) = σ 265 (6 * s + k)
set_option maxRecDepth 100000 in
set_option maxHeartbeats 4000000 in
theorem mf_ce_two (L : Nat) (xs : Nat → Int32) (d : Nat) (σ : kS) (n b R S C N : Nat) (kl : List Nat) (x y : Int32) (h : mTb σ n b) (hB : mBs σ n R S C kl) (hS : mSs σ n R S N) (hN6 : N < 600) (hc : cfg σ n R S (σ 264) (σ 265)) (hl : (N = 0 ∧ ∀ s, s < S → σ 264 s = 0) ∨ ∃ j m, j < N ∧ x = nI j ∧ y = nI m ∧ stp S (stD σ j) (stV σ j) (σ 264) (σ 265) m) (SD SV : Nat → Int32) (P : Prop) (hPa : P ↔ ∀ s, s < S → adN σ s) (hI : ceI σ N S SD SV) :
    kX kT L xs (d + 8) 213 146 [(3, .int (isB P)), (0, .ref 232), (1, .int x), (2, .int y)] [] (ceS σ SD SV) (fun r σ' => ceP σ σ' n R S C N r ∧ ceG σ σ' S C N kl x y r) := by
  have hS4 := hB.2.1.1
  have hN := hS.2.1
  have k194 : ∀ e : Int32, e = σ 232 71 + isB P → kX kT L xs (d + 8) 213 194 [(3, .int (isB P)), (0, .ref 232), (1, .int x), (2, .int y)] [] (ceT σ N SD SV x y e) (fun r σ' => ceP σ σ' n R S C N r ∧ ceG σ σ' S C N kl x y r) := by
    intro e hee
    have hF := ceT_sf σ n N SD SV x y e
    have hT : mTb (ceT σ N SD SV x y e) n b := h
    have hB2 := mBs_sf h hF hB
    have hS2 := ceT_Ss (e := e) h hB.1 hS hS4 hN6 hI hc hl
    have hc2 : cfg (ceT σ N SD SV x y e) n R S (ceT σ N SD SV x y e 264) (ceT σ N SD SV x y e 265) := cfg_sf h hB.1 hF hc
    have hst : ∀ i, i < N → (∀ s, s < S → stD (ceT σ N SD SV x y e) i s = stD σ i s) ∧ ∀ s k, s < S → k < 6 → stV (ceT σ N SD SV x y e) i (6 * s + k) = stV σ i (6 * s + k) := fun i hi => ⟨fun s hs => hI.1 (4 * i + s) (by omega), fun s k hs hk => hI.2.2.1 (24 * i + (6 * s + k)) (by omega)⟩
    have hd : ceT σ N SD SV x y e 264 = σ 264 := rfl
    have hv : ceT σ N SD SV x y e 265 = σ 265 := rfl
    have ho : ceT σ N SD SV x y e 292 = σ 292 := rfl
    have hch : ceT σ N SD SV x y e 293 = σ 293 := rfl
    have hpa : ceT σ N SD SV x y e 286 = upd (σ 286) N x := rfl
    have hmo : ceT σ N SD SV x y e 287 = upd (σ 287) N y := rfl
    have h232 : ceT σ N SD SV x y e 232 = upd (upd (σ 232) 69 (nI (N + 1))) 71 e := rfl
    have hnw : (∀ s, s < S → stD (ceT σ N SD SV x y e) N s = σ 264 s) ∧ ∀ s k, s < S → k < 6 → stV (ceT σ N SD SV x y e) N (6 * s + k) = σ 265 (6 * s + k) := ⟨fun s hs => hI.2.1 s hs, fun s k hs hk => by
      have := hI.2.2.2 s k hs hk
      rw [show 24 * N + 6 * s + k = 24 * N + (6 * s + k) by omega] at this
      exact this⟩
    have hbt : ∀ tr c, mBt (ceT σ N SD SV x y e) tr c S = mBt σ tr c S := fun _ _ => rfl
    have htt : trSt (ceT σ N SD SV x y e) kl S = trSt σ kl S := trSt_eq rfl rfl rfl rfl rfl rfl rfl rfl rfl rfl
    generalize ceT σ N SD SV x y e = ρ at *
    iterate 1 (refine kX_one rfl ?_)
    refine kX_cal (mr_stateRow L xs d ρ n b R S kl hT hB2.2.2.1 hB2.1 hS4 (cfg_Sv hT hB2.1 hB2.2.1 hc2)) rfl (Or.inr rfl) rfl rfl rfl (fun r1 σ1 q1 => ?_)
    obtain ⟨rfl, -, b', l, -, g1, g2, g3, g4, g5⟩ := q1
    have hB3 := mBs_sf hT (mSf_fr g1) hB2
    have hS3 := mSs_fr hT hB2.1 g1 hS2
    have ed := g1.1 264 (by decide)
    have ev := g1.1 265 (by decide)
    have hc3 : cfg σ1 n R S (σ1 264) (σ1 265) := by
      rw [ed, ev]
      exact cfg_sf hT hB2.1 (mSf_fr g1) hc2
    iterate 2 (refine kX_one rfl ?_)
    have := mf_ce_brk L xs (d + 1) σ1 n b' R S C kl l g2 hB3 hc3 x y (isB P) (fun r σ' => ceP σ σ' n R S C N r ∧ ceG σ σ' S C N kl x y r) (fun r τ e1 e2 e3 => ?_) (0, σ1) ⟨Nat.zero_le _, mFr_refl σ1 n, g2, g3, g4, rfl, fun c hc => absurd hc (Nat.not_lt_zero c)⟩
    · exact kX_lv _ rfl rfl rfl this
    · have hS4' := mSs_fr g2 hB3.1 e2 hS3
      have esd : τ 284 = ρ 284 := (e2.1 _ (by decide)).trans (g1.1 _ (by decide))
      have esv : τ 285 = ρ 285 := (e2.1 _ (by decide)).trans (g1.1 _ (by decide))
      have hfc : fsB (fun c => mBt σ1 (rwM σ1 l) c S) C 0 = fsB (fun c => mBt σ (trSt σ kl S) c S) C 0 := fsB_congr C 0 (fun c _ hc => by
        have a1 := mBk_tr (l := l) g2 (mFr_refl σ1 n) hB3.1 hB3.2.2.2 (c := c) (by omega) hS4 (cfg_Sv g2 hB3.1 hB3.2.1 hc3)
        have a2 := mBk_tr (l := l) hT g1 hB2.1 hB2.2.2.2 (c := c) (by omega) hS4 (cfg_Sv hT hB2.1 hB2.2.1 hc2)
        rw [← a1, a2, g5, htt, hbt])
      rw [hfc] at e1
      have e1' : ceR C (N + 1) r := by
        rcases e1 with w | ⟨c, w1, w2, -⟩
        · exact Or.inl w.1
        · exact Or.inr (Or.inr ⟨c, w1, w2, by omega⟩)
      have o232 : ∀ j, j ∉ rowJ → τ 232 j = ρ 232 j := fun j hj => (e2.2.1 j hj).trans (g1.2.1 j hj)
      refine ⟨⟨N + 1, by omega, by omega, e1', mSf_trans hF (mSf_trans (mSf_fr g1) (mSf_fr e2)), e3, hS4', ?_, ?_, ?_, ?_, fun i hi => ?_⟩, e1, ?_, ?_, ?_, ?_, ?_, ?_⟩
      · rw [e2.1 264 (by decide), ed, hd]
      · rw [e2.1 265 (by decide), ev, hv]
      · rw [e2.1 292 (by decide), g1.1 292 (by decide), ho]
      · rw [e2.1 293 (by decide), g1.1 293 (by decide), hch]
      · have := hst i hi
        unfold stD stV at this ⊢
        rw [esd, esv]
        exact this
      · rw [o232 _ (by decide), h232, pk_un (by decide), pk_us]
      · rw [o232 _ (by decide), h232, pk_us, hee, isB_iff hPa]
      · intro j hj j1 j2
        rw [o232 j hj, h232, pk_un j2, pk_un j1]
      · rw [e2.1 286 (by decide), g1.1 286 (by decide), hpa]
      · rw [e2.1 287 (by decide), g1.1 287 (by decide), hmo]
      · unfold stD stV at hnw ⊢
        rw [esd, esv]
        exact hnw
  have k190 : ∀ m : Int32, m = isB P → kX kT L xs (d + 8) 213 190 [(3, .int (isB P)), (0, .ref 232), (1, .int x), (2, .int y)] [.int m, .int (σ 232 71), .ref 232] (va_up (va_up (va_up (ceS σ SD SV) 286 (upd (σ 286) N x)) 287 (upd (σ 287) N y)) 232 (upd (σ 232) 69 (nI (N + 1)))) (fun r σ' => ceP σ σ' n R S C N r ∧ ceG σ σ' S C N kl x y r) := by
    intro m hm
    iterate 2 (refine kX_one rfl ?_)
    refine kX_st (ceT σ N SD SV x y (σ 232 71 + m)) ?_ (k194 _ (by rw [hm]))
    funext c; unfold ceT va_up; repeat' split
    all_goals first | rfl | omega | (subst_vars; rfl) | (funext j; unfold upd; repeat' split; all_goals first | rfl | omega | (subst_vars; rfl))
  iterate 4 (refine kX_one rfl ?_)
  refine kX_top (hN) ?_
  iterate 1 (refine kX_one rfl ?_)
  refine kX_iastN rfl rfl (by decide) (N) (by first | rfl | decide) (by omega) ?_
  iterate 4 (refine kX_one rfl ?_)
  refine kX_top (hN) ?_
  iterate 1 (refine kX_one rfl ?_)
  refine kX_iastN rfl rfl (by decide) (N) (by first | rfl | decide) (by omega) ?_
  iterate 3 (refine kX_one rfl ?_)
  refine kX_top (hN) ?_
  iterate 3 (refine kX_one rfl ?_)
  refine kX_st (va_up (va_up (va_up (ceS σ SD SV) 286 (upd (σ 286) N x)) 287 (upd (σ 287) N y)) 232 (upd (σ 232) 69 (nI (N + 1)))) ?_ ?_
  · rw [← nI_1]
    funext c; unfold ceS va_up; repeat' split
    all_goals first | rfl | omega | (subst_vars; rfl) | (funext j; unfold upd; repeat' split; all_goals first | rfl | omega | (subst_vars; rfl))
  iterate 3 (refine kX_one rfl ?_)
  repeat refine kX_one rfl ?_
  refine kX_if (fun q => ?_) (fun q => ?_)
  · have q : ¬ P := fun w => isB_ne.mpr w (qeq q)
    iterate 1 (refine kX_one rfl ?_)
    exact k190 0 (isB_F q).symm
  · have q : P := isB_ne.mp (qeqF q)
    iterate 2 (refine kX_one rfl ?_)
    exact k190 1 (isB_T q).symm
set_option maxRecDepth 100000 in
set_option maxHeartbeats 4000000 in
theorem mf_comesToBe (L : Nat) (xs : Nat → Int32) (d : Nat) (σ : kS) (n b R S C N : Nat) (kl : List Nat) (x y : Int32) (h : mTb σ n b) (hB : mBs σ n R S C kl) (hS : mSs σ n R S N) (hc : cfg σ n R S (σ 264) (σ 265)) (hl : (N = 0 ∧ ∀ s, s < S → σ 264 s = 0) ∨ ∃ j m, j < N ∧ x = nI j ∧ y = nI m ∧ stp S (stD σ j) (stV σ j) (σ 264) (σ 265) m) :
    kXM kT L xs (d + 8) 213 [.ref 232, .int x, .int y] σ (fun r σ' => ceP σ σ' n R S C N r ∧ (((∃ i, i < N ∧ smS σ S i) ∧ r = some (.int (-6)) ∧ σ = σ') ∨ (¬ (∃ i, i < N ∧ smS σ S i) ∧ N = 600 ∧ r = some (.int (-7)) ∧ σ = σ') ∨ (¬ (∃ i, i < N ∧ smS σ S i) ∧ N < 600 ∧ ceG σ σ' S C N kl x y r))) := by
  have hS4 := hB.2.1.1
  have hR4 := hB.1.1
  have hN6 := hS.1
  have hN := hS.2.1
  unfold kXM
  iterate 1 (refine kX_one rfl ?_)
  refine kX_cal (mf_isThere L xs (d + 6) σ S N hB.2.1.2.1 hS4 hN hN6) rfl (Or.inr rfl) rfl rfl rfl (fun r1 σ1 q1 => ?_)
  obtain ⟨rfl, rfl⟩ := q1
  repeat refine kX_one rfl ?_
  refine kX_if (fun q => ?_) (fun q => ?_)
  · have q : ¬ (∃ i, i < N ∧ smS σ S i) := fun w => isB_ne.mpr w (qeq q)
    iterate 2 (refine kX_one rfl ?_)
    refine kX_top (hN) ?_
    iterate 1 (refine kX_one rfl ?_)
    repeat refine kX_one rfl ?_
    refine kX_if (fun q2 => ?_) (fun q2 => ?_)
    · have q2 : N ≠ 600 := fun e => qne q2 (by rw [e]; decide)
      iterate 4 (refine kX_one rfl ?_)
      have := mf_ce_copy L xs (d + 7) σ n R S N hB.2.1 hR4 hN (by omega) x y (fun r σ' => ceP σ σ' n R S C N r ∧ (((∃ i, i < N ∧ smS σ S i) ∧ r = some (.int (-6)) ∧ σ = σ') ∨ (¬ (∃ i, i < N ∧ smS σ S i) ∧ N = 600 ∧ r = some (.int (-7)) ∧ σ = σ') ∨ (¬ (∃ i, i < N ∧ smS σ S i) ∧ N < 600 ∧ ceG σ σ' S C N kl x y r))) (fun SD SV P hPa hI => kX_post (mf_ce_two L xs d σ n b R S C N kl x y h hB hS (by omega) hc hl SD SV P hPa hI) (fun r σ' w => ⟨w.1, Or.inr (Or.inr ⟨q, by omega, w.2⟩)⟩)) (0, True, σ 284, σ 285) ⟨Nat.zero_le _, ⟨fun _ s hs => absurd hs (Nat.not_lt_zero s), fun _ => trivial⟩, fun j _ => rfl, fun u hu => absurd hu (Nat.not_lt_zero u), fun j _ => rfl, fun u k hu => absurd hu (Nat.not_lt_zero u)⟩
      dsimp only at this
      rw [isB_T trivial] at this
      refine kX_to _ _ rfl rfl rfl ?_ this
      funext c; unfold ceS va_up; repeat' split
      all_goals first | rfl | omega | (subst_vars; rfl) | (funext j; unfold upd; repeat' split; all_goals first | rfl | omega | (subst_vars; rfl))
    · have q2 : nI N = nI 600 := qneF q2
      have q2 : N = 600 := nI_inj q2
      repeat refine kX_one rfl ?_
      refine kX_ret (i := .ireturn) (len := 1) rfl (Or.inr rfl) rfl (⟨ceP_same h hS (Or.inr rfl), Or.inr (Or.inl ⟨q, q2, rfl, rfl⟩)⟩)
  · have q : ∃ i, i < N ∧ smS σ S i := isB_ne.mp (qeqF q)
    repeat refine kX_one rfl ?_
    refine kX_ret (i := .ireturn) (len := 1) rfl (Or.inr rfl) rfl (⟨ceP_same h hS (Or.inl rfl), Or.inl ⟨q, rfl, rfl⟩⟩)
end
section
/-! alike: THE SEARCH, one function for both sides -/
/-- STATES with parent and mover; ways; finished; the answer (0: none, -7: open, 1 + c) -/
abbrev sX := List ((Nat → Int32) × Int32 × Int32) × Nat × Nat × Int32
/-- a STATE comes to be -/
noncomputable def sRe (σ : kS) (kl : List Nat) (S C : Nat) (x : sX) (a : Nat → Int32) (f s : Int32) : sX := cit (∃ q ∈ x.1, q.1 = a) x (cit (600 ≤ x.1.length) (x.1, x.2.1, x.2.2.1, -7) (x.1 ++ [(a, f, s)], x.2.1, x.2.2.1 + cit (∀ s, s < S → adN (stI σ a) s) 1 0, fsB (fun c => mBt (stI σ a) (trSt (stI σ a) kl S) c S) C 0))
/-- one EVENT more of the session s -/
def aUp (a : Nat → Int32) (s : Nat) : Nat → Int32 := upd a (7 * s) (a (7 * s) + 1)
/-- VARIABLES come to stand for TERMS -/
def aSet (a : Nat → Int32) (s : Nat) : List (Nat × Nat) → Nat → Int32
  | [] => a
  | q :: l => aSet (upd a (7 * s + 1 + q.1) (nI q.2)) s l
/-- the way w: what each VARIABLE comes to stand for -/
def wyT (os : List (List Nat)) (w : Nat) : List Nat := (os.zip (dg (os.map List.length) w)).map (fun q => q.1.getD q.2 0)
/-- m ways from w on, while there is no answer: from the STATE a (the i-th), the EVENT's TERM t, places ps -/
noncomputable def sWy (σ : kS) (kl : List Nat) (S C i s : Nat) (a : Nat → Int32) (t : Nat) (ps : List Nat) (os : List (List Nat)) : Nat → Nat → sX → sX
  | 0, _, x => x
  | m + 1, w, x => cit (x.2.2.2 = 0) (sWy σ kl S C i s a t ps os m (w + 1) (cit (trM σ (trSt (stI σ a) kl S) (tin (stI σ (aSet (aUp a s) s (ps.zip (wyT os w)))) s t)) (sRe σ kl S C x (aSet (aUp a s) s (ps.zip (wyT os w))) (nI i) (nI s)) x)) x
/-- a session of the STATE a goes on -/
noncomputable def sSe (σ : kS) (kl : List Nat) (n S C i s : Nat) (a : Nat → Int32) (x : sX) : sX :=
  let r := fN (σ 255 s)
  let e := fN (a (7 * s))
  cit (e < fN (σ 247 r)) (cit (σ 249 (6 * r + e) ≠ 0) (sRe σ kl S C x (aUp a s) (nI i) (nI s))
    (let os := (bls σ r e).map (fun u => opL σ (fN (σ 240 u)) n)
     let W := wyN (os.map List.length)
     cit (20000 < x.2.1 + W) (x.1, 20001, x.2.2.1, -7) (sWy σ kl S C i s a (fN (σ 248 (6 * r + e))) ((bls σ r e).map (fun u => fN (σ 241 u))) os W 0 (x.1, x.2.1 + W, x.2.2.1, x.2.2.2)))) x
/-- m sessions from s on, while there is no answer -/
noncomputable def sGo (σ : kS) (kl : List Nat) (n S C i : Nat) (a : Nat → Int32) : Nat → Nat → sX → sX
  | 0, _, x => x
  | m + 1, s, x => cit (x.2.2.2 = 0) (sGo σ kl n S C i a m (s + 1) (sSe σ kl n S C i s a x)) x
/-- m STATES from the i-th on, while there is no answer -/
noncomputable def sAll (σ : kS) (kl : List Nat) (n S C : Nat) : Nat → Nat → sX → sX
  | 0, _, x => x
  | m + 1, i, x => cit (x.2.2.2 = 0 ∧ i < x.1.length) (sAll σ kl n S C m (i + 1) (sGo σ kl n S C i ((x.1.getD i (fun _ => 0, 0, 0)).1) S 0 x)) x
/-- THE SEARCH from the STATE a -/
noncomputable def sSr (σ : kS) (kl : List Nat) (n S C : Nat) (a : Nat → Int32) : sX := sAll σ kl n S C 600 0 (sRe σ kl S C ([], 0, 0, 0) a (-1) (-1))
end
section
/-! alike: the STATES of THE SEARCH, as both sides have them -/
def aD (a : Nat → Int32) : Nat → Int32 := fun s => a (7 * s)
def aV (a : Nat → Int32) : Nat → Int32 := fun j => nnI (a (7 * (j / 6) + 1 + j % 6))
theorem aV_at (a : Nat → Int32) {s k : Nat} (hk : k < 6) : aV a (6 * s + k) = nnI (a (7 * s + 1 + k)) := by
  show nnI (a (7 * ((6 * s + k) / 6) + 1 + (6 * s + k) % 6)) = _
  rw [show (6 * s + k) / 6 = s by omega, show (6 * s + k) % 6 = k by omega]
/-- a STATE -/
def aOk (σ : kS) (n R S : Nat) (a : Nat → Int32) : Prop := (∀ i, 7 * S ≤ i → a i = 0) ∧ cfg σ n R S (aD a) (aV a) ∧ ∀ s k, s < S → k < 6 → a (7 * s + 1 + k) = -1 ∨ ∃ z, z < n ∧ a (7 * s + 1 + k) = nI z
theorem stI_sf (σ : kS) (a : Nat → Int32) (n : Nat) : mSf σ (stI σ a) n := mSf_trans (mSf_up (c := 264) (by decide)) (mSf_up (c := 265) (by decide))
theorem aOk_Sv {σ : kS} {n b R S : Nat} {a : Nat → Int32} (h : mTb σ n b) (hR : mRo σ n R) (hS : mSe σ n R S) (ha : aOk σ n R S a) : mSv (stI σ a) n R S := cfg_Sv (σ := stI σ a) (b := b) h hR hS (cfg_sf h hR (stI_sf σ a n) ha.2.1)
theorem aOk_ho {σ : kS} {n b R S : Nat} {a : Nat → Int32} (h : mTb σ n b) (hR : mRo σ n R) (ha : aOk σ n R S a) : ∀ s, s < S → (mHo (stI σ a) s ↔ hoF (stI σ a) s) := by
  intro s hs
  have hR4 := hR.1
  obtain ⟨r, dn, r1, r2, r3, r4, r5⟩ := ha.2.1 s hs
  have hfr : fN (σ 255 s) = r := by rw [r2]; exact fN_nI (by omega)
  obtain ⟨⟨v, v6, v2⟩, -⟩ := hR.2.2.1 r r1
  have hfv : fN (σ 244 r) = v := by rw [v2]; exact fN_nI (by omega)
  have key : ∀ k, k < fN (σ 244 r) → σ 246 (6 * r + k) = 0 → aV a (6 * s + k) = σ 256 (6 * s + k) := fun k hk h0 => by
    have h2 : σ 246 (6 * r + k) ≠ nI 2 := by rw [h0]; decide
    exact ((r5 k (by omega)).1 ⟨hk, Or.inl h2⟩).2 h2
  show (∀ k, k < fN (σ 244 (fN (σ 255 s))) → σ 246 (6 * fN (σ 255 s) + k) = 0 → σ 238 (fN (aV a (6 * s + k))) ≠ 0) ↔ (∀ k, k < fN (σ 244 (fN (σ 255 s))) → σ 246 (6 * fN (σ 255 s) + k) = 0 → σ 238 (fN (σ 256 (6 * s + k))) ≠ 0)
  rw [hfr]
  exact forall_congr' (fun k => forall_congr' (fun hk => forall_congr' (fun h0 => by rw [key k hk h0])))
theorem aOk_gd {σ : kS} {n b R S s k z : Nat} {a : Nat → Int32} (h : mTb σ n b) (ha : aOk σ n R S a) (hs : s < S) (hk : k < 6) (hz : z < n) (e : a (7 * s + 1 + k) = nI z) : tgd (σ 233) (σ 234) (σ 235) z = true := by
  have hn := h.1
  obtain ⟨r, dn, r1, r2, r3, r4, r5⟩ := ha.2.1 s hs
  have ev : aV a (6 * s + k) = nI z := by rw [aV_at a hk, e, nnI_nI (by omega)]
  by_cases hb : bdv σ r dn k
  · obtain ⟨w, w1, w2, w3, -⟩ := ((r5 k hk).1 hb).1
    obtain rfl : w = z := nI_inj (w2.symm.trans ev)
    exact w3
  · have := (r5 k hk).2 hb
    rw [ev] at this
    exact absurd (show nI z < 0 by rw [this]; decide) (nI_pos (by omega))
theorem aUp_D (a : Nat → Int32) (s u : Nat) : aD (aUp a s) u = upd (aD a) s (a (7 * s) + 1) u := by
  unfold aD aUp
  by_cases e : u = s
  · subst e
    rw [pk_us, pk_us]
  · rw [pk_un (by omega), pk_un e]
theorem aUp_V (a : Nat → Int32) (s : Nat) {u k : Nat} (hk : k < 6) : aV (aUp a s) (6 * u + k) = aV a (6 * u + k) := by
  rw [aV_at _ hk, aV_at _ hk]
  unfold aUp
  rw [pk_un (by omega)]
/-- an EVENT that sends -/
theorem aOk_up {σ : kS} {n b R S s r dn : Nat} {a : Nat → Int32} (h : mTb σ n b) (hR : mRo σ n R) (ha : aOk σ n R S a) (hs : s < S) (r1 : r < R) (r2 : σ 255 s = nI r) (r3 : a (7 * s) = nI dn) (hdn : dn < fN (σ 247 r)) (hse : σ 249 (6 * r + dn) ≠ 0) : aOk σ n R S (aUp a s) ∧ stp S (aD a) (aV a) (aD (aUp a s)) (aV (aUp a s)) s := by
  obtain ⟨c1, c2⟩ := sd_cfg h hR ha.2.1 hs r1 r2 r3 hdn hse
  have e : ∀ u, u < S → aD (aUp a s) u = upd (aD a) s (nI (dn + 1)) u := fun u _ => by rw [aUp_D, r3, nI_1]
  refine ⟨⟨fun i hi => ?_, cfg_ext e (fun u k hu hk => aUp_V a s hk) c1, fun u k hu hk => ?_⟩, stp_ext (fun _ _ => rfl) (fun _ _ _ _ => rfl) e (fun u k hu hk => aUp_V a s hk) c2⟩
  · unfold aUp
    rw [pk_un (by omega)]
    exact ha.1 i hi
  · unfold aUp
    rw [pk_un (by omega)]
    exact ha.2.2 u k hu hk
theorem aSet_ne {s i : Nat} : ∀ (l : List (Nat × Nat)) (a : Nat → Int32), (∀ q ∈ l, i ≠ 7 * s + 1 + q.1) → aSet a s l i = a i
  | [], _, _ => rfl
  | q :: l, a, h => by
    show aSet (upd a (7 * s + 1 + q.1) (nI q.2)) s l i = a i
    rw [aSet_ne l _ (fun z hz => h z (List.mem_cons_of_mem _ hz)), pk_un (h q List.mem_cons_self)]
theorem aSet_at {s : Nat} : ∀ (l : List (Nat × Nat)) (a : Nat → Int32), l.Pairwise (fun x y => x.1 ≠ y.1) → ∀ q ∈ l, aSet a s l (7 * s + 1 + q.1) = nI q.2
  | [], _, _, q, hq => absurd hq List.not_mem_nil
  | z :: l, a, h, q, hq => by
    rw [List.pairwise_cons] at h
    show aSet (upd a (7 * s + 1 + z.1) (nI z.2)) s l (7 * s + 1 + q.1) = nI q.2
    rcases List.mem_cons.mp hq with rfl | hq
    · rw [aSet_ne l _ (fun w hw => by have := h.1 w hw; omega), pk_us]
    · exact aSet_at l _ h.2 q hq
theorem wyT_len (os : List (List Nat)) (w : Nat) : (wyT os w).length = os.length := by
  unfold wyT
  rw [List.length_map, List.length_zip, dg_len, List.length_map, Nat.min_self]
theorem wyT_at {os : List (List Nat)} {w j : Nat} (h : j < os.length) (h' : j < (wyT os w).length) (h2 : j < (dg (os.map List.length) w).length) : (wyT os w)[j]'h' = (os[j]'h).getD ((dg (os.map List.length) w)[j]'h2) 0 := by
  simp only [wyT, List.getElem_map, List.getElem_zip]
/-- the w-th way chooses what may stand -/
theorem wyT_in {os : List (List Nat)} {w j : Nat} (hw : w < wyN (os.map List.length)) (h : j < os.length) (h' : j < (wyT os w).length) : (wyT os w)[j]'h' ∈ os[j]'h := by
  have h2 : j < (os.map List.length).length := by rw [List.length_map]; exact h
  have := dg_lt (os.map List.length) w hw j h2
  rw [List.getElem_map] at this
  rw [wyT_at h h' (by rw [dg_len]; exact h2), List.getD_eq_getElem?_getD, List.getElem?_eq_getElem this]
  exact List.getElem_mem this
/-- what an EVENT that receives binds -/
theorem bls_ok {σ : kS} {n b R r e t : Nat} (h : mTb σ n b) (hR : mRo σ n R) (hr : r < R) (he : e < fN (σ 247 r)) (het : σ 248 (6 * r + e) = nI t) (ht : t < n) : (∀ u, u ∈ bls σ r e ↔ u ∈ tvs (σ 233) (σ 234) (σ 235) t ∧ nbv σ r e (fN (σ 241 u))) ∧ (bls σ r e).Pairwise (fun x y => x ≠ y) ∧ (∀ u ∈ bls σ r e, u < n ∧ (∃ k, k < 6 ∧ σ 241 u = nI k) ∧ ∃ so, so ≤ 3 ∧ σ 240 u = nI so) ∧ (∀ u ∈ bls σ r e, ∀ v ∈ bls σ r e, u ≠ v → σ 241 u ≠ σ 241 v) ∧ (bls σ r e).length ≤ 6 := by
  have hn := h.1
  have hft : fN (σ 248 (6 * r + e)) = t := by rw [het]; exact fN_nI (by omega)
  obtain ⟨t', t1, t2, t3, -⟩ := hR.2.2.2.2.2 r e hr he
  obtain rfl : t = t' := nI_inj (het.symm.trans t2)
  have hvar := fun u hu => mRo_var (u := u) h hR hr ht t3 hu
  have hm : ∀ u, u ∈ bls σ r e ↔ u ∈ tvs (σ 233) (σ 234) (σ 235) t ∧ nbv σ r e (fN (σ 241 u)) := fun u => by
    unfold bls
    rw [fl_mem, ddl_mem, hft]
    exact and_congr_left (fun _ => ⟨fun q => q.elim (fun q => absurd q List.not_mem_nil) id, Or.inr⟩)
  have hp : (bls σ r e).Pairwise (fun x y => x ≠ y) := fl_nd (ddl_nd _ [] List.Pairwise.nil)
  have h1 : ∀ u ∈ bls σ r e, u < n ∧ (∃ k, k < 6 ∧ σ 241 u = nI k) ∧ ∃ so, so ≤ 3 ∧ σ 240 u = nI so := fun u hu => by
    obtain ⟨k, so, u1, k6, kv, vv, kk, -, s1, s2⟩ := hvar u ((hm u).mp hu).1
    exact ⟨u1, ⟨k, k6, kk⟩, so, s1, s2⟩
  have h2 : ∀ u ∈ bls σ r e, ∀ v ∈ bls σ r e, u ≠ v → σ 241 u ≠ σ 241 v := fun u hu v hv huv ee => by
    obtain ⟨k, so, u1, k6, kv, vv, kk, -⟩ := hvar u ((hm u).mp hu).1
    obtain ⟨k', so', u1', k6', kv', vv', kk', -⟩ := hvar v ((hm v).mp hv).1
    obtain rfl : k = k' := nI_inj (by rw [← kk, ← kk', ee])
    exact huv (nI_inj (vv.symm.trans vv'))
  exact ⟨hm, hp, h1, h2, op_len hp (fun u hu => (h1 u hu).2.1) h2⟩
/-- nothing stands for it yet -/
theorem bls_neg {σ : kS} {n b R S s r dn t u : Nat} {a : Nat → Int32} (h : mTb σ n b) (hR : mRo σ n R) (ha : cfg σ n R S (aD a) (aV a)) (hs : s < S) (r1 : r < R) (r2 : σ 255 s = nI r) (r3 : a (7 * s) = nI dn) (hdn : dn < fN (σ 247 r)) (hse : σ 249 (6 * r + dn) = 0) (ht : t < n) (het : σ 248 (6 * r + dn) = nI t) (hu : u ∈ tvs (σ 233) (σ 234) (σ 235) t) : nbv σ r dn (fN (σ 241 u)) ↔ aV a (6 * s + fN (σ 241 u)) < 0 := by
  have hn := h.1
  have hR4 := hR.1
  obtain ⟨t', t1, t2, t3, -⟩ := hR.2.2.2.2.2 r dn r1 hdn
  obtain rfl : t = t' := nI_inj (het.symm.trans t2)
  obtain ⟨k, so, u1, k6, kv, vv, kk, -⟩ := mRo_var h hR r1 ht t3 hu
  rw [kk, fN_nI (by omega)]
  obtain ⟨r', dn', a1, a2, a3, a4, a5⟩ := ha s hs
  obtain rfl : r = r' := nI_inj (r2.symm.trans a2)
  have he6 : fN (σ 247 r) ≤ 6 := by
    obtain ⟨-, e, e1, e2⟩ := hR.2.2.1 r r1
    rw [e2, fN_nI (by omega)]
    exact e1
  obtain rfl : dn = dn' := nI_inj (r3.symm.trans a3)
  refine ⟨fun q => ?_, fun q => ⟨?_, fun hb => (mVz_ne h ((a5 k k6).1 hb).1).2 q⟩⟩
  · rw [(a5 k k6).2 q.2]
    decide
  · refine bdv_ev h hR r1 (Nat.lt_succ_self dn) hdn ?_ kk k6
    rw [het, fN_nI (by omega)]
    exact hu
noncomputable def owO (σ : kS) (n r e : Nat) : List (List Nat) := (bls σ r e).map (fun u => opL σ (fN (σ 240 u)) n)
noncomputable def owP (σ : kS) (r e : Nat) : List Nat := (bls σ r e).map (fun u => fN (σ 241 u))
/-- the STATE behind the way w of an EVENT that receives -/
noncomputable def aWy (σ : kS) (n r e s : Nat) (a : Nat → Int32) (w : Nat) : Nat → Int32 := aSet (aUp a s) s ((owP σ r e).zip (wyT (owO σ n r e) w))
theorem ow_len (σ : kS) (n r e w : Nat) : (owP σ r e).length = (bls σ r e).length ∧ (owO σ n r e).length = (bls σ r e).length ∧ (wyT (owO σ n r e) w).length = (bls σ r e).length := by
  refine ⟨by unfold owP; rw [List.length_map], by unfold owO; rw [List.length_map], ?_⟩
  rw [wyT_len]
  unfold owO
  rw [List.length_map]
theorem aWy_ne {σ : kS} {n r e s w i : Nat} {a : Nat → Int32} (h : ∀ u ∈ bls σ r e, i ≠ 7 * s + 1 + fN (σ 241 u)) : aWy σ n r e s a w i = aUp a s i := aSet_ne _ _ (fun q hq => by
  have := (List.of_mem_zip hq).1
  unfold owP at this
  obtain ⟨u, u1, u2⟩ := List.mem_map.mp this
  rw [← u2]
  exact h u u1)
theorem ow_pw {σ : kS} {n b R r e t : Nat} (h : mTb σ n b) (hR : mRo σ n R) (hr : r < R) (he : e < fN (σ 247 r)) (het : σ 248 (6 * r + e) = nI t) (ht : t < n) : (owP σ r e).Pairwise (fun x y => x ≠ y) := by
  obtain ⟨-, h2, h3, h4, -⟩ := bls_ok h hR hr he het ht
  unfold owP
  rw [List.pairwise_map]
  refine List.Pairwise.imp_of_mem (fun {x y} hx hy hxy ee => ?_) h2
  obtain ⟨-, ⟨k, k1, k2⟩, -⟩ := h3 x hx
  obtain ⟨-, ⟨k', k1', k2'⟩, -⟩ := h3 y hy
  rw [k2, k2', fN_nI (by omega), fN_nI (by omega)] at ee
  exact h4 x hx y hy hxy (by rw [k2, k2', ee])
theorem zip_pw {l : List Nat} : ∀ {l' : List Nat}, l.Pairwise (fun x y => x ≠ y) → (l.zip l').Pairwise (fun x y => x.1 ≠ y.1) := by
  induction l with
  | nil => intro l' _; rw [List.zip_nil_left]; exact List.Pairwise.nil
  | cons x l ih =>
    intro l' h
    rw [List.pairwise_cons] at h
    cases l' with
    | nil => rw [List.zip_nil_right]; exact List.Pairwise.nil
    | cons y l' =>
      rw [List.zip_cons_cons, List.pairwise_cons]
      exact ⟨fun q hq => h.1 q.1 (List.of_mem_zip hq).1, ih h.2⟩
theorem aWy_at {σ : kS} {n s w r e j : Nat} {a : Nat → Int32} (hp : (owP σ r e).Pairwise (fun x y => x ≠ y)) (hj : j < (bls σ r e).length) (hj' : j < (wyT (owO σ n r e) w).length) : aWy σ n r e s a w (7 * s + 1 + fN (σ 241 ((bls σ r e)[j]'hj))) = nI ((wyT (owO σ n r e) w)[j]'hj') := by
  have l1 := ow_len σ n r e w
  have hz : j < ((owP σ r e).zip (wyT (owO σ n r e) w)).length := by rw [List.length_zip]; omega
  have := aSet_at (s := s) _ (aUp a s) (zip_pw (l' := wyT (owO σ n r e) w) hp) _ (List.getElem_mem hz)
  rw [List.getElem_zip] at this
  have e1 : (owP σ r e)[j]'(by omega) = fN (σ 241 ((bls σ r e)[j]'hj)) := by
    simp only [owP, List.getElem_map]
  rw [e1] at this
  exact this
/-- an EVENT that receives -/
theorem aOk_way {σ : kS} {n b R S s r dn t w : Nat} {a : Nat → Int32} (h : mTb σ n b) (hR : mRo σ n R) (ha : aOk σ n R S a) (hs : s < S) (r1 : r < R) (r2 : σ 255 s = nI r) (r3 : a (7 * s) = nI dn) (hdn : dn < fN (σ 247 r)) (hse : σ 249 (6 * r + dn) = 0) (ht : t < n) (het : σ 248 (6 * r + dn) = nI t) (hw : w < wyN ((owO σ n r dn).map List.length)) :
    aOk σ n R S (aWy σ n r dn s a w) ∧ stp S (aD a) (aV a) (aD (aWy σ n r dn s a w)) (aV (aWy σ n r dn s a w)) s ∧ ∀ u ∈ tvs (σ 233) (σ 234) (σ 235) t, ∃ p z, p < 6 ∧ z < n ∧ σ 241 u = nI p ∧ aV (aWy σ n r dn s a w) (6 * s + p) = nI z ∧ tgd (σ 233) (σ 234) (σ 235) z = true ∧ (σ 240 u = nI 0 → σ 233 z = nI 0) := by
  have hn := h.1
  obtain ⟨b1, b2, b3, b4, b5⟩ := bls_ok h hR r1 hdn het ht
  have hp := ow_pw h hR r1 hdn het ht
  obtain ⟨l1, l2, l3⟩ := ow_len σ n r dn w
  have hc : ∀ p (hp : p < (bls σ r dn).length), (wyT (owO σ n r dn) w).getD p 0 = (wyT (owO σ n r dn) w)[p]'(by omega) := fun p hp => by
    rw [List.getD_eq_getElem?_getD, List.getElem?_eq_getElem (by omega)]
    rfl
  have hin : ∀ p (hp : p < (bls σ r dn).length), (wyT (owO σ n r dn) w).getD p 0 < n ∧ ofs σ (bls σ r dn)[p] ((wyT (owO σ n r dn) w).getD p 0) := fun p hp => by
    have h1 := wyT_in hw (j := p) (by omega) (by omega)
    rw [← hc p hp] at h1
    have e1 : (owO σ n r dn)[p]'(by omega) = opL σ (fN (σ 240 ((bls σ r dn)[p]'hp))) n := by
      simp only [owO, List.getElem_map]
    rw [e1, opL_mem] at h1
    obtain ⟨-, -, so, s1, s2⟩ := b3 _ (List.getElem_mem hp)
    refine ⟨h1.1, h1.2.1, ?_⟩
    have h2 := h1.2.2
    rw [s2, fN_nI (by omega)] at h2
    rw [s2]
    rcases h2 with q | q
    · exact Or.inl (by rw [q])
    · exact Or.inr q
  have hfk : ∀ u ∈ bls σ r dn, fN (σ 241 u) < 6 := fun u hu => by
    obtain ⟨-, ⟨k, k1, k2⟩, -⟩ := b3 u hu
    rw [k2, fN_nI (by omega)]
    exact k1
  have hV1 : ∀ p (hp : p < (bls σ r dn).length), aV (aWy σ n r dn s a w) (6 * s + fN (σ 241 (bls σ r dn)[p])) = nI ((wyT (owO σ n r dn) w).getD p 0) := fun p hp' => by
    have := (hin p hp').1
    rw [aV_at _ (hfk _ (List.getElem_mem hp')), aWy_at hp hp' (by omega), ← hc p hp', nnI_nI (by omega)]
  have hV2 : ∀ u k, u < S → k < 6 → (∀ p (h : p < (bls σ r dn).length), 6 * u + k ≠ 6 * s + fN (σ 241 (bls σ r dn)[p])) → aV (aWy σ n r dn s a w) (6 * u + k) = aV a (6 * u + k) := fun u k hu hk hne => by
    rw [aV_at _ hk, aWy_ne (fun v hv => ?_), ← aV_at _ hk, aUp_V a s hk]
    obtain ⟨p, hp', rfl⟩ := List.getElem_of_mem hv
    have := hne p hp'
    have := hfk _ hv
    omega
  obtain ⟨c1, c2, c3⟩ := rc_cfg (c := fun p => (wyT (owO σ n r dn) w).getD p 0) (D := aD a) (W := aV a) (V := aV (aWy σ n r dn s a w)) (op := bls σ r dn) h hR ha.2.1 hs r1 r2 r3 hdn hse ht het (fun u => by
    rw [b1 u]
    exact and_congr_right (fun hu => bls_neg h hR ha.2.1 hs r1 r2 r3 hdn hse ht het hu)) hin hV1 hV2
  have hD : ∀ u, u < S → aD (aWy σ n r dn s a w) u = upd (aD a) s (nI (dn + 1)) u := fun u hu => by
    have e : aWy σ n r dn s a w (7 * u) = aUp a s (7 * u) := aWy_ne (fun v hv => by have := hfk v hv; omega)
    show aWy σ n r dn s a w (7 * u) = _
    rw [e]
    have := aUp_D a s u
    rw [r3, nI_1] at this
    exact this
  refine ⟨⟨fun i hi => ?_, cfg_ext hD (fun _ _ _ _ => rfl) c1, fun u k hu hk => ?_⟩, stp_ext (fun _ _ => rfl) (fun _ _ _ _ => rfl) hD (fun _ _ _ _ => rfl) c2, c3⟩
  · rw [aWy_ne (fun v hv => by have := hfk v hv; omega)]
    unfold aUp
    rw [pk_un (by omega)]
    exact ha.1 i hi
  · by_cases e : ∀ v ∈ bls σ r dn, 7 * u + 1 + k ≠ 7 * s + 1 + fN (σ 241 v)
    · rw [aWy_ne e]
      unfold aUp
      rw [pk_un (by omega)]
      exact ha.2.2 u k hu hk
    · obtain ⟨v, hv, e⟩ : ∃ v ∈ bls σ r dn, 7 * u + 1 + k = 7 * s + 1 + fN (σ 241 v) := Classical.byContradiction (fun q => e (fun v hv e => q ⟨v, hv, e⟩))
      obtain ⟨p, hp', rfl⟩ := List.getElem_of_mem hv
      rw [e, aWy_at hp hp' (by omega), ← hc p hp']
      exact Or.inr ⟨_, (hin p hp').1, rfl⟩
end
section
/-! alike: a STATE's row and claims, from another place -/
def sxC : List Nat := [241, 249, 248, 255, 238, 244, 246, 247, 257, 258, 259, 260, 261, 262, 263]
theorem tin_cg {σ τ : kS} {n b s : Nat} (h : mTb σ n b) (hF2 : ∀ u, u < n → τ 233 u = σ 233 u ∧ τ 234 u = σ 234 u ∧ τ 235 u = σ 235 u) (ho : τ 241 = σ 241) : ∀ t, t < n → (∀ u ∈ tvs (σ 233) (σ 234) (σ 235) t, ∃ p z, p < 6 ∧ z < n ∧ σ 241 u = nI p ∧ σ 265 (6 * s + p) = nI z ∧ τ 265 (6 * s + p) = nI z) → tin τ s t = tin σ s t := by
  have hn := h.1
  have hV := mTb_num h
  have hV' : ∀ t, t < n → t < 100000 ∧ tOk (fun u => u < n) (mAG σ n) (τ 233) (τ 234) (τ 235) t := fun t ht => by
    obtain ⟨e1, e2, e3⟩ := hF2 t ht
    exact ⟨(hV t ht).1, tOk_mono (fun _ _ q => q) (fun _ _ q => q) e1 e2 e3 (hV t ht).2⟩
  intro t
  induction t using Nat.strongRecOn with
  | _ t ih =>
    intro ht hst
    obtain ⟨e1, e2, e3⟩ := hF2 t ht
    rcases (hV t ht).2 with ⟨k, h3, hk, -, -⟩ | ⟨k, x, y, h3, hk, hx, hy, h4, h5, h6, h7⟩ | ⟨k, x, h3, hk, hx, hy, h4, h6⟩
    · unfold tin
      rw [tA_0 (e1.trans hk) h3, tA_0 hk h3, e1]
      by_cases hk3 : σ 233 t = nI 3
      · rw [if_pos hk3, if_pos hk3]
        have hu : t ∈ tvs (σ 233) (σ 234) (σ 235) t := by
          unfold tvs
          rw [tA_0 hk h3, if_pos hk3]
          exact List.mem_singleton.mpr rfl
        obtain ⟨p, z, hp, hz, a1, a2, a3⟩ := hst t hu
        have ev : mVl τ s t = z := by
          unfold mVl
          rw [ho, a1, fN_nI (by omega), a3, fN_nI (by omega)]
        have ev' : mVl σ s t = z := by
          unfold mVl
          rw [a1, fN_nI (by omega), a2, fN_nI (by omega)]
        rw [ev, ev']
        exact tA_congr hV (fun w hw => ⟨(hF2 w hw).1, (hF2 w hw).2.1, (hF2 w hw).2.2, rfl⟩) z hz
      · rw [if_neg hk3, if_neg hk3]
    · have evs : tvs (σ 233) (σ 234) (σ 235) t = tvs (σ 233) (σ 234) (σ 235) x ++ tvs (σ 233) (σ 234) (σ 235) y := tA_2 hV hk hx hy (by omega) (by omega) h4 h5 h6 h7
      have e4 : tin τ s t = vnd k (tin τ s x) (some (tin τ s y)) := tA_2 hV' (e1.trans hk) (e2.trans hx) (e3.trans hy) (by omega) (by omega) h4 h5 h6 h7
      have e5 : tin σ s t = vnd k (tin σ s x) (some (tin σ s y)) := tA_2 hV hk hx hy (by omega) (by omega) h4 h5 h6 h7
      rw [e4, e5, ih x h4 h6 (fun u hu => hst u (by rw [evs]; exact List.mem_append_left _ hu)), ih y h5 h7 (fun u hu => hst u (by rw [evs]; exact List.mem_append_right _ hu))]
    · have evs : tvs (σ 233) (σ 234) (σ 235) t = tvs (σ 233) (σ 234) (σ 235) x ++ [] := tA_1 hV hk hx hy (by omega) (by omega) h4 h6
      have e4 : tin τ s t = vnd k (tin τ s x) none := tA_1 hV' (e1.trans hk) (e2.trans hx) (e3.trans hy) (by omega) (by omega) h4 h6
      have e5 : tin σ s t = vnd k (tin σ s x) none := tA_1 hV hk hx hy (by omega) (by omega) h4 h6
      rw [e4, e5, ih x h4 h6 (fun u hu => hst u (by rw [evs]; exact List.mem_append_left _ hu))]
theorem mA_cg {σ τ : kS} (hk : ∀ u, u < 200 → τ 233 u = σ 233 u ∧ τ 234 u = σ 234 u ∧ τ 235 u = σ 235 u) : mA τ = mA σ := by
  funext t
  unfold mA
  by_cases q : t < 200
  · rw [(hk t q).1]
  · exact propext ⟨fun z => absurd z.1 q, fun z => absurd z.1 q⟩
theorem trKn_cg {σ τ : kS} {n b : Nat} {kl : List Nat} (h : mTb σ n b) (hK : mKn σ n kl) (hk : ∀ u, u < 200 → τ 233 u = σ 233 u ∧ τ 234 u = σ 234 u ∧ τ 235 u = σ 235 u) : trKn τ kl = trKn σ kl := by
  have hn := h.1
  unfold trKn
  refine fold_congr kl [] (fun t ht a => ?_)
  have : tvl (τ 233) (τ 234) (τ 235) t = tvl (σ 233) (σ 234) (σ 235) t := tA_congr (mTb_num h) (fun w hw => ⟨(hk w (by omega)).1, (hk w (by omega)).2.1, (hk w (by omega)).2.2, rfl⟩) t (hK.2.2.2 t ht).1
  rw [this]
theorem trSe_cg {σ τ : kS} {n b R S s : Nat} (h : mTb σ n b) (hR : mRo σ n R) (hS : mSv σ n R S) (hk : ∀ u, u < 200 → τ 233 u = σ 233 u ∧ τ 234 u = σ 234 u ∧ τ 235 u = σ 235 u) (e : eqC σ τ sxC) (hv : ∀ k, k < 6 → σ 265 (6 * s + k) ≠ -6 → τ 265 (6 * s + k) = σ 265 (6 * s + k)) (hs : s < S) (tr : trT) : ∀ c, c ≤ fN (σ 264 s) → trSe τ s tr c = trSe σ s tr c := by
  have hn := h.1
  have hR4 := hR.1
  intro c
  obtain ⟨r, r1, r2, r3, r4, -, r6, -⟩ := hS.2 s hs
  induction c with
  | zero => intro _; rfl
  | succ c ih =>
    intro hc
    have hst := r6 c (by omega)
    obtain ⟨t, t1, t2, -⟩ := hR.2.2.2.2.2 r c r1 (by omega)
    have hme : mEv σ s c = 6 * r + c := by
      unfold mEv
      rw [r2, fN_nI (by omega)]
    have hme2 : mEv τ s c = 6 * r + c := by
      unfold mEv
      rw [e 255 (by decide), r2, fN_nI (by omega)]
    rw [trSe, trSe, ih (by omega), hme2, hme, e 249 (by decide), e 248 (by decide)]
    rw [t2, fN_nI (by omega)] at hst ⊢
    rw [tin_cg h (fun u hu => hk u (by omega)) (e 241 (by decide)) t t1 (fun u hu => ?_)]
    obtain ⟨p, z, p1, p2, p3, p4, -⟩ := hst u hu
    refine ⟨p, z, p1, p2, p3, p4, ?_⟩
    rw [hv p p1 (by rw [p4]; exact fun q => absurd (show nI z < 0 by rw [q]; decide) (nI_pos (by omega)))]
    exact p4
theorem trSs_cg {σ τ : kS} {n b R S : Nat} (h : mTb σ n b) (hR : mRo σ n R) (hS : mSv σ n R S) (hk : ∀ u, u < 200 → τ 233 u = σ 233 u ∧ τ 234 u = σ 234 u ∧ τ 235 u = σ 235 u) (e : eqC σ τ sxC) (hd : ∀ s, s < S → τ 264 s = σ 264 s ∨ (τ 264 s = σ 264 s + 1 ∧ σ 249 (mEv σ s (fN (σ 264 s))) = 0)) (hv : ∀ s k, s < S → k < 6 → σ 265 (6 * s + k) ≠ -6 → τ 265 (6 * s + k) = σ 265 (6 * s + k)) (tr : trT) : ∀ s, s ≤ S → trSs τ tr s = trSs σ tr s := by
  intro s
  induction s with
  | zero => intro _; rfl
  | succ s ih =>
    intro hs
    have hs' : s < S := hs
    have hR4 := hR.1
    have h2 := fun tr => trSe_cg h hR hS hk e (hv s · hs') hs' tr
    obtain ⟨r, r1, r2, r3, r4, -⟩ := hS.2 s hs'
    obtain ⟨-, ev, ev6, ev2⟩ := hR.2.2.1 r r1
    rw [ev2, fN_nI (by omega)] at r4
    have hd := hd s hs'
    have hmev : mEv τ s (fN (σ 264 s)) = mEv σ s (fN (σ 264 s)) := by
      unfold mEv
      rw [e 255 (by decide)]
    have es := e 249 (by decide)
    generalize fN (σ 264 s) = dn at *
    have e1 : trSs τ tr (s + 1) = trSe τ s (trSs σ tr s) (fN (τ 264 s)) := by
      rw [trSs, ih (by omega)]
    have e2 : trSs σ tr (s + 1) = trSe σ s (trSs σ tr s) dn := by
      rw [trSs, r3, fN_nI (by omega)]
    rw [e1, e2]
    rcases hd with q | ⟨q1, q2⟩
    · rw [q, r3, fN_nI (by omega)]
      exact h2 _ _ (Nat.le_refl _)
    · have e3 : fN (τ 264 s) = dn + 1 := by
        rw [q1, r3, nI_1]
        exact fN_nI (by omega)
      rw [e3, trSe, hmev, es, cit_F (fun z => z q2)]
      exact h2 _ _ (Nat.le_refl _)
theorem trSt_cg {σ τ : kS} {n b R S : Nat} {kl : List Nat} (h : mTb σ n b) (hR : mRo σ n R) (hK : mKn σ n kl) (hS : mSv σ n R S) (hk : ∀ u, u < 200 → τ 233 u = σ 233 u ∧ τ 234 u = σ 234 u ∧ τ 235 u = σ 235 u) (e : eqC σ τ sxC) (hd : ∀ s, s < S → τ 264 s = σ 264 s ∨ (τ 264 s = σ 264 s + 1 ∧ σ 249 (mEv σ s (fN (σ 264 s))) = 0)) (hv : ∀ s k, s < S → k < 6 → σ 265 (6 * s + k) ≠ -6 → τ 265 (6 * s + k) = σ 265 (6 * s + k)) : trSt τ kl S = trSt σ kl S := by
  unfold trSt
  rw [trKn_cg h hK hk, trSs_cg h hR hS hk e hd hv _ S (Nat.le_refl _), mA_cg hk, e 238 (by decide)]
theorem mBt_cg {σ τ : kS} {tr : trT} {n b R S C c : Nat} (h : mTb σ n b) (hR : mRo σ n R) (hC : mCl σ R C) (hc : c < C) (hS : mSv σ n R S) (hk : ∀ u, u < 200 → τ 233 u = σ 233 u ∧ τ 234 u = σ 234 u ∧ τ 235 u = σ 235 u) (e : eqC σ τ sxC) (hd : ∀ s, s < S → τ 264 s = σ 264 s) (hv : ∀ s k, s < S → k < 6 → τ 265 (6 * s + k) = σ 265 (6 * s + k)) : mBt τ tr c S ↔ mBt σ tr c S := by
  have hn := h.1
  have hR4 := hR.1
  obtain ⟨bb, aa, nn, j, x1, x2, x3, x4, x5, x6, x7, x8, x9, x10⟩ := hC.2.2 c hc
  have hv6 : ∀ r, r < R → fN (σ 244 r) ≤ 6 := fun r hr => by
    obtain ⟨⟨v, h1, h2⟩, -⟩ := hR.2.2.1 r hr
    rw [h2, fN_nI (by omega)]
    exact h1
  have hmH : ∀ s, s < S → (mHo τ s ↔ mHo σ s) := fun s hs => by
    obtain ⟨r, r1, r2, -⟩ := hS.2 s hs
    have := hv6 r r1
    unfold mHo
    rw [e 244 (by decide), e 255 (by decide), e 246 (by decide), e 238 (by decide), r2, fN_nI (by omega)]
    exact forall_congr' (fun k => forall_congr' (fun hk => by rw [hv s k hs (by omega)]))
  have htv : ∀ t, t < n → tvl (τ 233) (τ 234) (τ 235) t = tvl (σ 233) (σ 234) (σ 235) t := fun t ht => tA_congr (mTb_num h) (fun w hw => ⟨(hk w (by omega)).1, (hk w (by omega)).2.1, (hk w (by omega)).2.2, rfl⟩) t ht
  have htM : ∀ g, trM τ tr g = trM σ tr g := fun g => by
    unfold trM
    rw [mA_cg hk, e 238 (by decide)]
  unfold mBt
  rw [e 257 (by decide), e 258 (by decide), e 259 (by decide), e 255 (by decide)]
  refine or_congr (and_congr_right (fun hsec => exists_congr (fun s => and_congr_right (fun hs => and_congr_right (fun _ => ?_))))) (and_congr_right (fun hsec => not_congr (cPn_congr (fun s hs => ?_) (fun s p hs hp hps => ?_))))
  · have ha6 : aa < 6 := by
      have := x4 hsec
      have := hv6 bb x1
      omega
    have hfa : fN (σ 259 c) = aa := by rw [x3]; exact fN_nI (by omega)
    rw [hfa, hv s aa hs ha6, hmH s hs]
    rcases mSv_val hS hs ha6 with q | ⟨z, z1, z2, -⟩
    · rw [q]
      exact ⟨fun w => absurd (by decide) w.1, fun w => absurd (by decide) w.1⟩
    · rw [z2, fN_nI (by omega), htv z z1, htM]
  · unfold mWt
    rw [hmH s hs, e 255 (by decide), e 258 (by decide), e 247 (by decide), hd s hs]
  · have haR := x5 hsec
    unfold mFit
    rw [e 255 (by decide), e 259 (by decide), e 260 (by decide), e 261 (by decide), hd p hp]
    refine and_congr_right (fun _ => ?_)
    refine forall_congr' (fun k => forall_congr' (fun hk => ?_))
    rw [x9, fN_nI (by omega)] at hk
    obtain ⟨bx, ay, q1, q2, q3, q4, q5⟩ := x10 k hk
    have h6b := hv6 bb x1
    have h6a := hv6 aa haR
    unfold mJn
    rw [e 262 (by decide), e 263 (by decide), q4, q5, fN_nI (by omega), fN_nI (by omega), hv s bx hs (by omega), hv p ay hp (by omega)]
end
section
/-! alike: all STATES of THE SEARCH, and the way back from one -/
abbrev xT := List ((Nat → Int32) × Int32 × Int32)
def xq (l : xT) (i : Nat) : (Nat → Int32) × Int32 × Int32 := l.getD i (fun _ => 0, 0, 0)
theorem xq_lt {l : xT} {q : (Nat → Int32) × Int32 × Int32} {i : Nat} (h : i < l.length) : xq (l ++ [q]) i = xq l i := by
  unfold xq
  rw [List.getD_eq_getElem?_getD, List.getD_eq_getElem?_getD, List.getElem?_append_left h]
theorem xq_eq {l : xT} {q : (Nat → Int32) × Int32 × Int32} : xq (l ++ [q]) l.length = q := by
  unfold xq
  rw [List.getD_eq_getElem?_getD, List.getElem?_append_right (Nat.le_refl _), Nat.sub_self]
  rfl
theorem xq_mem {l : xT} {a : Nat → Int32} : (∃ q ∈ l, q.1 = a) ↔ ∃ i, i < l.length ∧ (xq l i).1 = a := by
  have key : ∀ i (h : i < l.length), xq l i = l[i]'h := fun i h => by
    unfold xq
    rw [List.getD_eq_getElem?_getD, List.getElem?_eq_getElem h]
    rfl
  refine ⟨fun ⟨q, h1, h2⟩ => ?_, fun ⟨i, h1, h2⟩ => ⟨xq l i, ?_, h2⟩⟩
  · obtain ⟨i, hi, rfl⟩ := List.getElem_of_mem h1
    exact ⟨i, hi, by rw [key i hi]; exact h2⟩
  · rw [key i h1]
    exact List.getElem_mem h1
/-- all STATES hold -/
def xOk (σ : kS) (n R S : Nat) (l : xT) : Prop := l.length ≤ 600 ∧ ∀ i, i < l.length → aOk σ n R S (xq l i).1 ∧ (i = 0 → ∀ s, s < S → (xq l i).1 (7 * s) = 0) ∧ (0 < i → ∃ j mv, j < i ∧ (xq l i).2.1 = nI j ∧ (xq l i).2.2 = nI mv ∧ stp S (aD (xq l j).1) (aV (xq l j).1) (aD (xq l i).1) (aV (xq l i).1) mv)
theorem xOk_nil (σ : kS) (n R S : Nat) : xOk σ n R S [] := ⟨Nat.zero_le _, fun i hi => absurd hi (Nat.not_lt_zero i)⟩
theorem xOk_push {σ : kS} {n R S : Nat} {l : xT} {a : Nat → Int32} {f y : Int32} (h : xOk σ n R S l) (hl : l.length < 600) (ha : aOk σ n R S a) (hp : (l.length = 0 ∧ ∀ s, s < S → a (7 * s) = 0) ∨ ∃ j mv, j < l.length ∧ f = nI j ∧ y = nI mv ∧ stp S (aD (xq l j).1) (aV (xq l j).1) (aD a) (aV a) mv) : xOk σ n R S (l ++ [(a, f, y)]) := by
  have hlen : (l ++ [(a, f, y)]).length = l.length + 1 := by rw [List.length_append]; rfl
  refine ⟨by omega, fun i hi => ?_⟩
  by_cases e : i = l.length
  · subst e
    rw [xq_eq]
    refine ⟨ha, fun z => ?_, fun z => ?_⟩
    · rcases hp with q | ⟨j, mv, j1, -⟩
      · exact q.2
      · omega
    · rcases hp with q | ⟨j, mv, j1, j2, j3, j4⟩
      · omega
      · refine ⟨j, mv, j1, j2, j3, ?_⟩
        rw [xq_lt j1]
        exact j4
  · have hi' : i < l.length := by omega
    obtain ⟨g1, g2, g3⟩ := h.2 i hi'
    rw [xq_lt hi']
    refine ⟨g1, g2, fun z => ?_⟩
    obtain ⟨j, mv, j1, j2, j3, j4⟩ := g3 z
    refine ⟨j, mv, j1, j2, j3, ?_⟩
    rw [xq_lt (by omega)]
    exact j4
/-- the reference with these STATES -/
def xI (σ : kS) (l : xT) : kS := va_up (va_up (va_up (va_up (va_up σ 284 (fun j => aD (xq l (j / 4)).1 (j % 4))) 285 (fun j => aV (xq l (j / 24)).1 (j % 24))) 286 (fun i => (xq l i).2.1)) 287 (fun i => (xq l i).2.2)) 232 (upd (σ 232) 69 (nI l.length))
theorem xI_sf (σ : kS) (l : xT) (n : Nat) : mSf σ (xI σ l) n := mSf_trans (mSf_up (c := 284) (by decide)) (mSf_trans (mSf_up (c := 285) (by decide)) (mSf_trans (mSf_up (c := 286) (by decide)) (mSf_trans (mSf_up (c := 287) (by decide)) (mSf_o (σ := va_up (va_up (va_up (va_up σ 284 (fun j => aD (xq l (j / 4)).1 (j % 4))) 285 (fun j => aV (xq l (j / 24)).1 (j % 24))) 286 (fun i => (xq l i).2.1)) 287 (fun i => (xq l i).2.2)) (j := 69) (by decide)))))
theorem xI_Ss {σ : kS} {n b R S : Nat} {l : xT} (h : mTb σ n b) (hR : mRo σ n R) (hS4 : S ≤ 4) (hx : xOk σ n R S l) : mSs (xI σ l) n R S l.length := by
  have d : ∀ i s, s < 4 → stD (xI σ l) i s = aD (xq l i).1 s := fun i s hs => by
    show aD (xq l ((4 * i + s) / 4)).1 ((4 * i + s) % 4) = _
    rw [show (4 * i + s) / 4 = i by omega, show (4 * i + s) % 4 = s by omega]
  have v : ∀ i s k, s < 4 → k < 6 → stV (xI σ l) i (6 * s + k) = aV (xq l i).1 (6 * s + k) := fun i s k hs hk => by
    show aV (xq l ((24 * i + (6 * s + k)) / 24)).1 ((24 * i + (6 * s + k)) % 24) = _
    rw [show (24 * i + (6 * s + k)) / 24 = i by omega, show (24 * i + (6 * s + k)) % 24 = 6 * s + k by omega]
  refine ⟨hx.1, by show upd (σ 232) 69 (nI l.length) 69 = _; rw [pk_us], fun i hi => ?_⟩
  obtain ⟨g1, g2, g3⟩ := hx.2 i hi
  refine ⟨cfg_ext (fun s hs => d i s (by omega)) (fun s k hs hk => v i s k (by omega) hk) (cfg_sf h hR (xI_sf σ l n) g1.2.1), fun e s hs => ?_, fun e => ?_⟩
  · rw [d i s (by omega)]
    exact g2 e s hs
  · obtain ⟨j, mv, j1, j2, j3, j4⟩ := g3 e
    exact ⟨j, mv, j1, j2, j3, stp_ext (fun s hs => d j s (by omega)) (fun s k hs hk => v j s k (by omega) hk) (fun s hs => d i s (by omega)) (fun s k hs hk => v i s k (by omega) hk) j4⟩
theorem tpI_1 (f : Nat → Int32) (l : Nat) : ∀ j, tpI f l (j + 1) = tpI f (fN (f l)) j
  | 0 => rfl
  | j + 1 => by
    show fN (f (tpI f l (j + 1))) = fN (f (tpI f (fN (f l)) j))
    rw [tpI_1 f l j]
/-- the way back, as a list and by its parents -/
theorem pth_tp {σ : kS} {P : Nat → Int32} {N : Nat} (hN : N ≤ 600) (hP : ∀ i, 0 < i → i < N → P i = σ 286 i) : ∀ (lp : List (Nat × Nat)) (i : Nat), i < N → pthR σ i lp → (∀ j, j < lp.length → 0 < tpI P i j) ∧ tpI P i lp.length = 0 ∧ (∀ j, j ≤ lp.length → tpI P i j < N) ∧ ∀ j (h : j < lp.length), (lp[j]'h).2 = tpI P i j ∧ σ 287 (tpI P i j) = nI (lp[j]'h).1
  | [], i, hi, h => ⟨fun j hj => absurd hj (Nat.not_lt_zero j), h, fun j hj => by
      obtain rfl : j = 0 := Nat.le_zero.mp hj
      exact hi, fun j hj => absurd hj (Nat.not_lt_zero j)⟩
  | (m, i') :: lp, i, hi, h => by
    obtain ⟨rfl, h0, h1, j, j1, j2, j3⟩ := h
    have hf : fN (P i') = j := by
      rw [hP i' h0 hi, j2]
      exact fN_nI (by omega)
    obtain ⟨a1, a2, a3, a4⟩ := pth_tp hN hP lp j (by omega) j3
    refine ⟨fun q hq => ?_, ?_, fun q hq => ?_, fun q hq => ?_⟩
    · cases q with
      | zero => exact h0
      | succ q =>
        rw [tpI_1, hf]
        exact a1 q (by simpa using hq)
    · rw [List.length_cons, tpI_1, hf]
      exact a2
    · cases q with
      | zero => exact hi
      | succ q =>
        rw [tpI_1, hf]
        exact a3 q (by simpa using hq)
    · cases q with
      | zero => exact ⟨rfl, h1⟩
      | succ q =>
        rw [tpI_1, hf]
        exact a4 q (by simpa using hq)
/-- the way back from the last STATE -/
theorem x_path {σ : kS} {n b R S : Nat} {l : xT} (h : mTb σ n b) (hR : mRo σ n R) (hS4 : S ≤ 4) (hx : xOk σ n R S l) (hl : 0 < l.length) : ∃ D, D ≤ 24 ∧ ∀ P : Nat → Int32, (∀ i, 0 < i → i < l.length → P i = (xq l i).2.1) → (∀ j, j < D → 0 < tpI P (l.length - 1) j) ∧ tpI P (l.length - 1) D = 0 := by
  have hT : mTb (xI σ l) n b := h
  have hR2 : mRo (xI σ l) n R := mSf_Ro h (xI_sf σ l n) hR
  have hSs := xI_Ss h hR hS4 hx
  obtain ⟨lp, p1, p2⟩ := pth_ex hSs (l.length - 1) (by omega)
  refine ⟨lp.length, pth_24 hR2 hS4 hSs hl p2, fun P hP => ?_⟩
  obtain ⟨a1, a2, -⟩ := pth_tp (σ := xI σ l) (P := P) hx.1 hP lp (l.length - 1) (by omega) p1
  exact ⟨a1, a2⟩
end
section
/-! alike: an intruder stays when another one fills his table -/
section OT
variable {σ ω : kS} {K st n u m : Nat} {l : rwT}
/-- as far as the TERMS of the intruder K go, ω is as σ -/
def otE (σ ω : kS) (K st n u : Nat) : Prop := (∀ z, kV n st u z → ω 2 z = σ 2 z ∧ ω 3 z = σ 3 z ∧ ω 4 z = σ 4 z ∧ ω 5 z = σ 5 z ∧ ω 6 z = σ 6 z) ∧ ω 11 = σ 11 ∧ (∀ c, K ≤ c → c < K + 9 → ω c = σ c) ∧ mA ω = mA σ ∧ ω 238 = σ 238
theorem ot_V (h : kTb σ K st n u) : ∀ t, kV n st u t → t < 100000 ∧ tOk (kV n st u) (kAG σ n) (σ 2) (σ 3) (σ 4) t := h.2.2.2.1.1
theorem ot_A {α : Type} {lf lf' : Nat → α} {nd : Nat → α → Option α → α} (h : kTb σ K st n u) (e : otE σ ω K st n u) (hl : ∀ t, kV n st u t → lf' t = lf t) {z : Nat} (hz : kV n st u z) : tA lf' nd (ω 2) (ω 3) (ω 4) z = tA lf nd (σ 2) (σ 3) (σ 4) z :=
  tA_congr (ot_V h) (fun t ht => by obtain ⟨a, b, c, -⟩ := e.1 t ht; exact ⟨a, b, c, hl t ht⟩) z hz
theorem ot_kTv (h : kTb σ K st n u) (e : otE σ ω K st n u) {z : Nat} (hz : kV n st u z) : kTv ω z = kTv σ z := ot_A h e (fun _ _ => rfl) hz
theorem ot_gd (h : kTb σ K st n u) (e : otE σ ω K st n u) {z : Nat} (hz : kV n st u z) : tgd (ω 2) (ω 3) (ω 4) z = tgd (σ 2) (σ 3) (σ 4) z := ot_A h e (fun t ht => by rw [(e.1 t ht).1]) hz
theorem ot_AG (e : otE σ ω K st n u) : kAG ω n = kAG σ n := by
  funext t
  unfold kAG
  refine propext (and_congr_right (fun ht => ?_))
  rw [(e.1 t (Or.inl ht)).1, e.2.1]
theorem kTb_ot (h : kTb σ K st n u) (e : otE σ ω K st n u) : kTb ω K st n u := by
  have eK : ω K = σ K := e.2.2.1 K (by omega) (by omega)
  obtain ⟨h1, h2, h3, h4, h5, h6⟩ := id h
  refine ⟨h1, by rw [eK]; exact h2, by rw [eK]; exact h3, ⟨fun t ht => ⟨(h4.1 t ht).1, ?_⟩, fun t ht => ?_, fun t v ht hv q1 q2 q3 q4 => ?_⟩, fun g g1 g2 => ?_, ?_⟩
  · rw [ot_AG e]
    exact tOk_mono (fun _ _ q => q) (fun _ _ q => q) (e.1 t ht).1 (e.1 t ht).2.1 (e.1 t ht).2.2.1 (h4.1 t ht).2
  · rw [(e.1 t ht).2.2.2.1, h4.2.1 t ht]
    unfold tsz
    rw [ot_A h e (fun _ _ => rfl) ht]
  · obtain ⟨a1, a2, a3, -⟩ := e.1 t ht
    obtain ⟨b1, b2, b3, -⟩ := e.1 v hv
    rw [a1] at q1 q2
    rw [b1] at q2
    rw [a2, b2] at q3
    rw [a3, b3] at q4
    exact h4.2.2 t v ht hv q1 q2 q3 q4
  · have hg : kV n st u g := Or.inr ⟨g1, g2⟩
    obtain ⟨a1, a2, a3⟩ := h5 g g1 g2
    refine ⟨by rw [(e.1 g hg).1]; exact a1, by rw [ot_gd h e hg]; exact a2, ?_⟩
    have : tdp (ω 2) (ω 3) (ω 4) g = tdp (σ 2) (σ 3) (σ 4) g := ot_A h e (fun _ _ => rfl) hg
    rw [this]
    exact a3
  · rw [e.2.2.1 (K + 1) (by omega) (by omega)]
    have g1 := hcP_congr (V' := fun g => st ≤ g ∧ g < st + u) (pl' := cpt ω) (fun _ => Iff.rfl) (fun g hg => by
      obtain ⟨a1, a2, a3, -⟩ := e.1 g (Or.inr hg)
      unfold cpt
      rw [a1, a2, a3]) h6
    exact ⟨g1.1, fun t ht => by rw [(e.1 t (Or.inr ht)).2.2.2.2]; exact g1.2 t ht⟩
theorem ot_In (h : kTb σ K st n u) (hl : ∀ t, rwI l t → kV n st u t) (e : otE σ ω K st n u) : kIn ω l = kIn σ l := by
  funext g
  unfold kIn
  refine propext (exists_congr (fun t => and_congr_right (fun ht => ?_)))
  rw [ot_kTv h e (hl t ht)]
theorem kRw_ot (h : kTb σ K st n u) (hR : kRw σ K st n u m l) (e : otE σ ω K st n u) : kRw ω K st n u m l := by
  have hl : ∀ t, rwI l t → kV n st u t := fun t ht => (hR.2.2.1 t ht).1
  have hk : ∀ g, kV n st u g → kMk ω l g = kMk σ l g := fun g hg => by
    unfold kMk
    rw [ot_In h hl e, e.2.2.2.1, e.2.2.2.2, ot_kTv h e hg]
  have ec : ∀ j, j < 9 → ω (K + j) = σ (K + j) := fun j hj => e.2.2.1 _ (by omega) (by omega)
  obtain ⟨r1, r2, r3, r4, r5, r6, r7, r8⟩ := hR
  refine ⟨by rw [e.2.2.1 K (by omega) (by omega)]; exact r1, ?_, fun t ht => ⟨(r3 t ht).1, by rw [ot_gd h e (r3 t ht).1]; exact (r3 t ht).2⟩, r4, ?_, fun a ha => ?_, ?_, fun g hg hgd => ?_⟩
  · rw [ec 2 (by omega), ec 3 (by omega), ec 4 (by omega)]
    exact r2
  · rw [ec 5 (by omega)]
    exact r5
  · rw [ec 7 (by omega), r6 a ha]
    refine exists_congr (fun t => and_congr_right (fun ht => ?_))
    rw [(e.1 t (hl t ht)).1, (e.1 t (hl t ht)).2.1]
  · rw [ec 6 (by omega)]
    exact r7
  · rw [ot_gd h e hg] at hgd
    rw [ec 6 (by omega), e.2.2.1 K (by omega) (by omega), hk g hg]
    exact r8 g hg hgd
theorem kTr_ot (h : kTb σ K st n u) (hl : ∀ t, rwI l t → kV n st u t) (e : otE σ ω K st n u) : kTr ω l = kTr σ l := by
  unfold kTr
  refine List.map_congr_left (fun q hq => ?_)
  rw [ot_kTv h e (hl q.1 ⟨q, hq, rfl⟩)]
theorem kQf_ot (h : kQf σ K st n u m) (e : otE σ ω K st n u) : kQf ω K st n u m := fun g g1 g2 => by
  rw [e.2.2.1 (K + 5) (by omega) (by omega), e.2.2.1 (K + 6) (by omega) (by omega)]
  exact h g g1 g2
theorem kOk_ot {tr : trT} (h : kOk σ K st n tr) (e : ∀ u, u ≤ 576 → otE σ ω K st n u) : kOk ω K st n tr := by
  obtain ⟨u, m, l, h1, h2, h3, h4, h5, h6, h7, h8⟩ := h
  have e := e u h3.1
  exact ⟨u, m, l, h1, h2, kTb_ot h3 e, kMs_eq e.2.2.1 h4, kRw_ot h3 h5 e, (kTr_ot h3 (fun t ht => (h5.2.2.1 t ht).1) e).trans h6, by rw [e.2.2.1 K (by omega) (by omega)]; exact h7, kQf_ot h8 e⟩
theorem iE_ot (h : iE σ K st n u m l) (e : otE σ ω K st n u) (e1 : ω 1 = σ 1) (eA : ∀ t, t < n → aT1 ω t) : iE ω K st n u m l ∧ kTr ω l = kTr σ l := by
  obtain ⟨h1, h2, h3, h4, h5, h6, h7, h8, h9, h10⟩ := h
  refine ⟨⟨h1, h2, by rw [e1]; exact h3, eA, kTb_ot h5 e, kMs_eq e.2.2.1 h6, h7, kRw_ot h5 h8 e, fun t ht => ?_, kQf_ot h10 e⟩, kTr_ot h5 (fun t ht => (h8.2.2.1 t ht).1) e⟩
  have : kDp ω t = kDp σ t := ot_A h5 e (fun _ _ => rfl) (Or.inl ht)
  rw [this]
  exact h9 t ht
end OT
/-- one intruder fills, another stays -/
theorem nF2_ot {σ ω : kS} {K st K' st' n u : Nat} (hK : isK K st) (hK' : isK K' st') (hne : K ≠ K') (hF : nF2 σ ω K' st') (hn : n ≤ 200) (hu : u ≤ 576) : otE σ ω K st n u := by
  have b := isK_b hK
  have b' := isK_b hK'
  have hd : K + 9 ≤ K' ∨ K' + 9 ≤ K := by
    rcases hK with ⟨k1, k2⟩ | ⟨k1, k2⟩ | ⟨k1, k2⟩ <;> rcases hK' with ⟨k3, k4⟩ | ⟨k3, k4⟩ | ⟨k3, k4⟩ <;> omega
  have hst : st + 576 ≤ st' ∨ st' + 576 ≤ st := by
    rcases hK with ⟨k1, k2⟩ | ⟨k1, k2⟩ | ⟨k1, k2⟩ <;> rcases hK' with ⟨k3, k4⟩ | ⟨k3, k4⟩ | ⟨k3, k4⟩ <;> omega
  have hc : ∀ c, c < K' ∨ K' + 9 ≤ c → 7 ≤ c → ω c = σ c := fun c c1 c2 => hF.1.1 c c1 (by omega) (by omega) (by omega) (by omega) (by omega)
  refine ⟨fun z hz => ?_, hc _ (by omega) (by decide), fun c c1 c2 => hc c (by omega) (by omega), ?_, hc _ (by omega) (by decide)⟩
  · have hz' : z < st' ∨ st' + 576 ≤ z := by unfold kV at hz; omega
    obtain ⟨a1, a2, a3, a4⟩ := hF.1.2 z hz'
    exact ⟨a1, a2, a3, hF.2 z hz', a4⟩
  · funext t
    unfold mA
    rw [hc 233 (by omega) (by decide)]
end
section
/-! alike: the class in THE SEARCH -/
/-- the way to the attack, as the class has it -/
def cAy (τ : kS) (x : sX) : Prop := (x.2.2.2 = 0 ∨ x.2.2.2 = -7 → τ 195 9 = -1) ∧ (x.2.2.2 ≠ 0 → x.2.2.2 ≠ -7 → 0 < x.1.length ∧ ∃ D, D ≤ 24 ∧ (∀ j, j < D → 0 < tpI (τ 198) (x.1.length - 1) j) ∧ tpI (τ 198) (x.1.length - 1) D = 0 ∧ τ 195 9 = nI D ∧ ∀ k, k < D → τ 203 k = τ 199 (tpI (τ 198) (x.1.length - 1) (D - 1 - k)))
/-- the STATES, as the class has them -/
def cSx (τ : kS) (S : Nat) (l : xT) : Prop := ∀ i, i < l.length → stF τ 197 (28 * i) S = (xq l i).1 ∧ τ 198 i = (xq l i).2.1 ∧ τ 199 i = (xq l i).2.2
def cFx (σ τ : kS) (S C : Nat) (x : sX) : Prop := τ 195 6 = nI (7 * S) ∧ τ 195 7 = isB (∃ c, c < C ∧ σ (163 + 3 * c) 0 ≠ 0) ∧ τ 195 10 = nI x.2.1 ∧ x.2.1 ≤ 20001 ∧ τ 195 11 = nI x.2.2.1 ∧ τ 195 12 = x.2.2.2
/-- what the search leaves of the class's other cells -/
def cGx (σ τ : kS) : Prop := sF σ τ ∧ (∀ j, j < 776 → τ 5 j = σ 5 j) ∧ cKw τ 204 776 ∧ cKw τ 213 1352 ∧ cQ τ
def cX (σ τ : kS) (n R S C : Nat) (x : sX) (mm : Nat) : Prop := cGx σ τ ∧ sWi τ (7 * S) x.1.length ∧ cSx τ S x.1 ∧ cFx σ τ S C x ∧ cOL τ (fun so => opL σ so n) ∧ (∃ m2, m2 ≤ mm ∧ kMs τ 204 m2) ∧ (∃ u m3 l, m3 ≤ mm ∧ iE τ 213 1352 n u m3 l) ∧ xOk σ n R S x.1 ∧ cAy τ x
theorem sF_hi {σ τ : kS} (h : sF σ τ) : ∀ c, 232 ≤ c → τ c = σ c := fun c hc => h.1 c (Or.inr hc) (by omega) (by omega) (by omega) (by omega) (by omega)
theorem sF_lo {σ τ : kS} (h : sF σ τ) : ∀ c, 7 ≤ c → c < 195 → τ c = σ c := fun c c1 c2 => h.1 c (Or.inl c2) (by omega) (by omega) (by omega) (by omega) (by omega)
theorem hiS_of {σ τ : kS} (e : ∀ c, 232 ≤ c → τ c = σ c) : τ = hiS σ τ := funext fun c => by
  unfold hiS
  by_cases hc : 232 ≤ c
  · rw [if_pos hc]
    exact e c hc
  · rw [if_neg hc]
theorem aOk_hi {σ τ : kS} {n R S : Nat} {a : Nat → Int32} (e : ∀ c, 232 ≤ c → τ c = σ c) (h : aOk σ n R S a) : aOk τ n R S a := by
  rw [hiS_of e]
  exact h
theorem stI_hi {σ τ : kS} (e : ∀ c, 232 ≤ c → τ c = σ c) (a : Nat → Int32) : ∀ c, 232 ≤ c → stI τ a c = stI σ a c := fun c hc => by
  by_cases e1 : c = 265
  · subst e1
    rfl
  · by_cases e2 : c = 264
    · subst e2
      rfl
    · unfold stI
      rw [up_ne e1, up_ne e2, up_ne e1, up_ne e2]
      exact e c hc
theorem stI_lo (σ : kS) (a : Nat → Int32) {c : Nat} (h1 : c ≠ 264) (h2 : c ≠ 265) : stI σ a c = σ c := by
  unfold stI
  rw [up_ne h2, up_ne h1]
theorem trSt_hi {σ τ : kS} (e : ∀ c, 232 ≤ c → τ c = σ c) (kl : List Nat) (S : Nat) : trSt τ kl S = trSt σ kl S := trSt_eq (e _ (by decide)) (e _ (by decide)) (e _ (by decide)) (e _ (by decide)) (e _ (by decide)) (e _ (by decide)) (e _ (by decide)) (e _ (by decide)) (e _ (by decide)) (e _ (by decide))
theorem cCn_sF {σ τ : kS} {n : Nat} (hn : n ≤ 200) (h : sF σ τ) (hC : cCn σ n) : cCn τ n := by
  have ek : ∀ t, t < n → τ 2 t = σ 2 t ∧ τ 3 t = σ 3 t ∧ τ 4 t = σ 4 t ∧ τ 6 t = σ 6 t := fun t ht => h.2 t (by omega)
  unfold cCn at hC ⊢
  have g := hcP_congr (V' := fun t => t < n ∧ 3 < fN (τ 2 t)) (pl' := cpt τ) (fun t => and_congr_right (fun ht => by rw [(ek t ht).1])) (fun t ht => by
    unfold cpt
    rw [(ek t ht.1).1, (ek t ht.1).2.1, (ek t ht.1).2.2.1]) hC
  refine ⟨fun s hs => ?_, fun t ht => ?_⟩
  · rw [sF_lo h 7 (by decide) (by decide)]
    exact g.1 s hs
  · rw [(ek t ht.1).2.2.2]
    exact g.2 t ht
theorem aT1_sF {σ τ : kS} {n : Nat} (hn : n ≤ 200) (h : sF σ τ) (hz : ∀ j, j < 776 → τ 5 j = σ 5 j) (hA : ∀ t, t < n → aT1 σ t) : ∀ t, t < n → aT1 τ t := fun t ht => by
  obtain ⟨a1, a2, a3, -⟩ := h.2 t (by omega)
  have := hA t ht
  have hi := sF_hi h
  have lo := sF_lo h
  unfold aT1 at this ⊢
  rw [a1, a2, a3, hz t (by omega), lo 8 (by decide) (by decide), lo 9 (by decide) (by decide), lo 10 (by decide) (by decide), lo 11 (by decide) (by decide), lo 12 (by decide) (by decide), hi 233 (by decide), hi 234 (by decide), hi 235 (by decide), hi 236 (by decide), hi 237 (by decide), hi 238 (by decide), hi 239 (by decide), hi 240 (by decide), hi 241 (by decide)]
  exact this
/-- all that a STATE of the search needs to be looked at -/
def vB (υ : kS) (n b R S C : Nat) (kl : List Nat) : Prop := (mTb υ n b ∧ mRo υ n R ∧ mSe υ n R S ∧ mKn υ n kl ∧ mCl υ R C ∧ mSv υ n R S) ∧ (aT υ n ∧ aR υ R ∧ aS υ S ∧ aC υ C ∧ aK υ kl) ∧ ∀ s, s < S → (mHo υ s ↔ hoF υ s)
theorem vB_of {σ τ : kS} {n b R S C m : Nat} {kl : List Nat} {a : Nat → Int32} (h : aJ σ n b R S C kl m) (hG : cGx σ τ) (ha : aOk σ n R S a) : vB (stI τ a) n b R S C kl := by
  obtain ⟨hF, hz, -⟩ := hG
  have hi := sF_hi hF
  have lo := sF_lo hF
  obtain ⟨t1, t2, t3, t4, t5, -⟩ := mI_hi hi h.1
  obtain ⟨i1, i2, i3, -, i5, -⟩ := h.1
  obtain ⟨-, -, aT', aR', aS', aC', aK', -⟩ := h
  have ha2 := aOk_hi hi ha
  have hn := t1.1
  have hh : ∀ l : List Nat, l.all (fun c => decide (232 < c ∧ c ≠ 264 ∧ c ≠ 265)) = true → eqC σ (stI τ a) l := eqC_of (fun c q => (stI_lo τ a q.2.1 q.2.2).trans (hi c (by omega)))
  have hl : ∀ c, 7 ≤ c → c < 195 → stI τ a c = σ c := fun c c1 c2 => (stI_lo τ a (by omega) (by omega)).trans (lo c c1 c2)
  refine ⟨⟨t1, t2, t3, t4, t5, aOk_Sv t1 t2 t3 ha2⟩, ⟨⟨?_, ?_⟩, ?_, ?_, ?_, ?_⟩, aOk_ho t1 t2 ha2⟩
  · intro t ht
    have := aT1_sF hn hF hz aT'.1 t ht
    exact this
  · have := cCn_sF hn hF aT'.2
    exact this
  · exact aR_c i1 i2 (fun c c1 c2 => hl c (by omega) (by omega)) (hh _ (by decide)) aR'
  · exact aS_c i1.1 i2 i3 (hl _ (by decide) (by decide)) (hl _ (by decide) (by decide)) (hl _ (by decide) (by decide)) (hh _ (by decide)) aS'
  · exact aC_c i5 (fun c c1 c2 => hl c (by omega) (by omega)) (hh _ (by decide)) aC'
  · exact aK_eq (by rw [hl 13 (by decide) (by decide)]) (hl _ (by decide) (by decide)) aK'
theorem gR_sF {σ τ : kS} {n b : Nat} (hM : mTb σ n b) (hA : ∀ t, t < n → aT1 σ t) (h : sF σ τ) (hz : ∀ j, j < 776 → τ 5 j = σ 5 j) : gR τ n := aT_gR (b := b) (σ := τ) (by
  rw [hiS_of (sF_hi h)]
  exact hM) (aT1_sF hM.1 h hz hA)
/-- only the draft and the ways have changed -/
theorem cX_q {σ τ ω : kS} {n R S C mm : Nat} {x : sX} (h : cX σ τ n R S C x mm) (e : ∀ c, c ≠ 202 → c ≠ 222 → c ≠ 229 → c ≠ 230 → c ≠ 231 → ω c = τ c) (hq : cQ ω) : cX σ ω n R S C x mm := by
  obtain ⟨⟨h1, h2, h3, h4, h5⟩, g2, g3, g4, g5, ⟨m2, g6, g6'⟩, ⟨u, m3, l, g7, g8⟩, g9, g10⟩ := h
  have e' : ∀ c, c < 202 ∨ (202 < c ∧ c < 222) ∨ (222 < c ∧ c < 229) ∨ 231 < c → ω c = τ c := fun c hc => e c (by omega) (by omega) (by omega) (by omega) (by omega)
  have hgt : ∀ g, 200 ≤ g → ω 2 g = τ 2 g ∧ ω 3 g = τ 3 g ∧ ω 4 g = τ 4 g ∧ ω 6 g = τ 6 g := fun g _ => by
    rw [e' 2 (by decide), e' 3 (by decide), e' 4 (by decide), e' 6 (by decide)]
    exact ⟨rfl, rfl, rfl, rfl⟩
  refine ⟨⟨sF_trans h1 (sF_of (fun c hc => e' c (by omega))), fun j hj => by rw [e' 5 (by decide)]; exact h2 j hj, cKw_eq (by decide) (e' _ (by decide)) (e' _ (by decide)) (e' _ (by decide)) hgt h3, cKw_eq (by decide) (e' _ (by decide)) (e' _ (by decide)) (e' _ (by decide)) hgt h4, hq⟩, ?_, ?_, ?_, fun so hso => ?_, ⟨m2, g6, kMs_eq (fun c c1 c2 => e' c (by omega)) g6'⟩, ⟨u, m3, l, g7, ?_⟩, g9, ?_⟩
  · unfold sWi at g2 ⊢
    rw [e' 196 (by decide), e' 197 (by decide), e' 201 (by decide), e' 200 (by decide)]
    exact g2
  · unfold cSx stF at g3 ⊢
    rw [e' 197 (by decide), e' 198 (by decide), e' 199 (by decide)]
    exact g3
  · unfold cFx at g4 ⊢
    rw [e' 195 (by decide)]
    exact g4
  · rw [e' 228 (by decide), e' (224 + so) (by omega)]
    exact g5 so hso
  · refine (iE_ot g8 ⟨fun z _ => ?_, e' _ (by decide), fun c c1 c2 => e' c (by omega), ?_, e' _ (by decide)⟩ (e' _ (by decide)) (fun t ht => ?_)).1
    · rw [e' 2 (by decide), e' 3 (by decide), e' 4 (by decide), e' 5 (by decide), e' 6 (by decide)]
      exact ⟨rfl, rfl, rfl, rfl, rfl⟩
    · unfold mA
      rw [e' 233 (by decide)]
    · have := g8.2.2.2.1 t ht
      unfold aT1 at this ⊢
      rw [e' 2 (by decide), e' 3 (by decide), e' 4 (by decide), e' 5 (by decide), e' 8 (by decide), e' 9 (by decide), e' 10 (by decide), e' 11 (by decide), e' 12 (by decide), e' 233 (by decide), e' 234 (by decide), e' 235 (by decide), e' 236 (by decide), e' 237 (by decide), e' 238 (by decide), e' 239 (by decide), e' 240 (by decide), e' 241 (by decide)]
      exact this
  · unfold cAy at g10 ⊢
    rw [e' 195 (by decide), e' 198 (by decide), e' 199 (by decide), e' 203 (by decide)]
    exact g10
theorem cX_up {σ τ : kS} {n R S C mm mm' : Nat} {x : sX} (h : cX σ τ n R S C x mm) (hm : mm ≤ mm') : cX σ τ n R S C x mm' := by
  obtain ⟨g1, g2, g3, g4, g5, ⟨m2, g6, g6'⟩, ⟨u, m3, l, g7, g8⟩, g9, g10⟩ := h
  exact ⟨g1, g2, g3, g4, g5, ⟨m2, by omega, g6'⟩, ⟨u, m3, l, by omega, g8⟩, g9, g10⟩
/-- an intruder was filled -/
theorem cX_K {σ τ ω : kS} {n R S C mm K st u m : Nat} {x : sX} {l : rwT} (h : cX σ τ n R S C x mm) (hT : cT σ n) (hK : (K = 204 ∧ st = 776) ∨ (K = 213 ∧ st = 1352)) (hm : m ≤ mm + 1) (hg : gK τ ω K st n u m l) : cX σ ω n R S C x (mm + 1) := by
  have hK' : isK K st := Or.inr hK
  obtain ⟨⟨h1, h2, h3, h4, h5⟩, g2, g3, g4, g5, ⟨m2, g6, g6'⟩, ⟨u3, m3, l3, g7, g8⟩, g9, g10⟩ := h
  obtain ⟨hF, hE, hC, hG⟩ := hg
  have hn := hE.2.1
  have hTo : cT ω n := cT_nF hK' hF.1 (cT_sF h1 hT)
  have hw := nW_w (iE_nW hE hTo hG)
  have hc : ∀ c, 7 ≤ c → c < 204 ∨ 222 ≤ c → ω c = τ c := fun c a b => hF.1.1 c (by omega) (by omega) (by omega) (by omega) (by omega) (by omega)
  have hs : sF τ ω := ⟨fun c a1 a2 a3 a4 a5 a6 => hF.1.1 c (by omega) a2 a3 a4 a5 a6, fun j hj => hF.1.2 j (by omega)⟩
  refine ⟨⟨sF_trans h1 hs, fun j hj => (hF.2 j (by omega)).trans (h2 j hj), ?_, ?_, cQ_eq (hc _ (by decide) (by decide)) (hc _ (by decide) (by decide)) h5⟩, ?_, ?_, ?_, fun so hso => ?_, ?_, ?_, g9, ?_⟩
  · rcases hK with ⟨rfl, rfl⟩ | ⟨rfl, rfl⟩
    · exact hw
    · exact cKw_eq2 (hF.1.1 _ (by decide) (by decide) (by decide) (by decide) (by decide) (by decide)) (hF.1.1 _ (by decide) (by decide) (by decide) (by decide) (by decide) (by decide)) (hF.1.1 _ (by decide) (by decide) (by decide) (by decide) (by decide) (by decide)) (fun g g1 g2 => hF.1.2 g (by omega)) h3
  · rcases hK with ⟨rfl, rfl⟩ | ⟨rfl, rfl⟩
    · exact cKw_eq2 (hF.1.1 _ (by decide) (by decide) (by decide) (by decide) (by decide) (by decide)) (hF.1.1 _ (by decide) (by decide) (by decide) (by decide) (by decide) (by decide)) (hF.1.1 _ (by decide) (by decide) (by decide) (by decide) (by decide) (by decide)) (fun g g1 g2 => hF.1.2 g (by omega)) h4
    · exact hw
  · unfold sWi at g2 ⊢
    rw [hc 196 (by decide) (by decide), hc 197 (by decide) (by decide), hc 201 (by decide) (by decide), hc 200 (by decide) (by decide)]
    exact g2
  · unfold cSx stF at g3 ⊢
    rw [hc 197 (by decide) (by decide), hc 198 (by decide) (by decide), hc 199 (by decide) (by decide)]
    exact g3
  · unfold cFx at g4 ⊢
    rw [hc 195 (by decide) (by decide)]
    exact g4
  · rw [hc 228 (by decide) (by decide), hc (224 + so) (by omega) (by omega)]
    exact g5 so hso
  · rcases hK with ⟨rfl, rfl⟩ | ⟨rfl, rfl⟩
    · exact ⟨m, hm, hE.2.2.2.2.2.1⟩
    · exact ⟨m2, by omega, kMs_eq (fun c c1 c2 => hF.1.1 c (by omega) (by omega) (by omega) (by omega) (by omega) (by omega)) g6'⟩
  · rcases hK with ⟨rfl, rfl⟩ | ⟨rfl, rfl⟩
    · exact ⟨u3, m3, l3, by omega, (iE_ot g8 (nF2_ot (Or.inr (Or.inr ⟨rfl, rfl⟩)) hK' (by decide) hF hn g8.2.2.2.2.1.1) (hF.1.1 1 (by decide) (by decide) (by decide) (by decide) (by decide) (by decide)) hE.2.2.2.1).1⟩
    · exact ⟨u, m, l, hm, hE⟩
  · unfold cAy at g10 ⊢
    rw [hc 195 (by decide) (by decide), hc 198 (by decide) (by decide), hc 199 (by decide) (by decide), hc 203 (by decide) (by decide)]
    exact g10
end
