/-! the reference: takeState, isThere -/
theorem ix24 (i s k : Nat) : (Int8.ofInt 24).toInt32 * nI i + (Int8.ofInt 6).toInt32 * nI s + nI k = nI (24 * i + 6 * s + k) := by
  rw [show (Int8.ofInt 24).toInt32 = nI 24 from rfl, show (Int8.ofInt 6).toInt32 = nI 6 from rfl, pk_mul, pk_mul, nI_add, nI_add]
set_option maxRecDepth 100000 in
set_option maxHeartbeats 4000000 in
theorem mr_takeState (L : Nat) (xs : Nat → Int32) (d : Nat) (σ : kS) (S i : Nat) (hS : σ 232 27 = nI S) (hS4 : S ≤ 4) (hi : i < 600) : kXM kT L xs (d + 1) 210 [.ref 232, .int (nI i)] σ (fun r σ' => r = none ∧ ∃ D V, σ' = va_up (va_up σ 264 D) 265 V ∧ (∀ s, s < S → D s = σ 284 (4 * i + s)) ∧ ∀ s k, s < S → k < 6 → V (6 * s + k) = σ 285 (24 * i + 6 * s + k)) := by
  unfold kXM
  iterate 2 (refine kX_one rfl ?_)
  have loopA := kX_while (T := kT) (L := L) (xs := xs) (d := d + 1) (mi := 210) (pc := 2) (Q := fun r σ' => r = none ∧ ∃ D V, σ' = va_up (va_up σ 264 D) 265 V ∧ (∀ s, s < S → D s = σ 284 (4 * i + s)) ∧ ∀ s k, s < S → k < 6 → V (6 * s + k) = σ 285 (24 * i + 6 * s + k))
    (fun q : Nat × (Nat → Int32) × (Nat → Int32) => [(2, .int (nI q.1)), (0, .ref 232), (1, .int (nI i))]) (fun q => va_up (va_up σ 264 q.2.1) 265 q.2.2) (fun q => q.1 ≤ S ∧ (∀ s, s < q.1 → q.2.1 s = σ 284 (4 * i + s)) ∧ (∀ s k, s < q.1 → k < 6 → q.2.2 (6 * s + k) = σ 285 (24 * i + 6 * s + k))) (fun q => S - q.1) ?_ (0, σ 264, σ 265) ⟨Nat.zero_le _, fun s hs => absurd hs (Nat.not_lt_zero s), fun s k hs => absurd hs (Nat.not_lt_zero s)⟩
  · refine kX_to _ _ rfl rfl rfl ?_ loopA
    funext c; unfold  va_up; repeat' split
    all_goals first | rfl | omega | (subst_vars; rfl) | (funext j; unfold upd; repeat' split; all_goals first | rfl | omega | (subst_vars; rfl))
  · rintro ⟨s, D, V⟩ ⟨i1, i2, i3⟩ ih
    dsimp only at i1 i2 i3 ih ⊢
    have loopB : s < S → ∀ q : Nat × (Nat → Int32), (q.1 ≤ 6 ∧ (∀ s' k, s' < s → k < 6 → q.2 (6 * s' + k) = σ 285 (24 * i + 6 * s' + k)) ∧ ∀ k, k < q.1 → q.2 (6 * s + k) = σ 285 (24 * i + 6 * s + k)) → kX kT L xs (d + 1) 210 28 [(3, .int (nI q.1)), (2, .int (nI s)), (0, .ref 232), (1, .int (nI i))] [] (va_up (va_up σ 264 (upd D s (σ 284 (4 * i + s)))) 265 q.2) (fun r σ' => r = none ∧ ∃ D V, σ' = va_up (va_up σ 264 D) 265 V ∧ (∀ s, s < S → D s = σ 284 (4 * i + s)) ∧ ∀ s k, s < S → k < 6 → V (6 * s + k) = σ 285 (24 * i + 6 * s + k)) := by
      intro hsS
      refine kX_while (fun q : Nat × (Nat → Int32) => [(3, .int (nI q.1)), (2, .int (nI s)), (0, .ref 232), (1, .int (nI i))]) (fun q => va_up (va_up σ 264 (upd D s (σ 284 (4 * i + s)))) 265 q.2) _ (fun q => 6 - q.1) ?_
      rintro ⟨k, V2⟩ ⟨j1, j2, j3⟩ ih2
      dsimp only at j1 j2 j3 ih2 ⊢
      repeat refine kX_one rfl ?_
      refine kX_if (fun q2 => ?_) (fun q2 => ?_)
      · have q2 := qge q2 k 6
        obtain rfl : k = 6 := by omega
        iterate 2 (refine kX_one rfl ?_)
        have := ih (s + 1, upd D s (σ 284 (4 * i + s)), V2) ⟨by simp only; omega, fun s' hs' => by
          simp only at hs' ⊢
          by_cases e : s' = s
          · subst e
            exact pk_us
          · rw [pk_un e]
            exact i2 s' (by omega), fun s' k hs' hk => by
          simp only at hs' ⊢
          by_cases e : s' = s
          · subst e
            exact j3 k hk
          · exact j2 s' k (by omega) hk⟩ (by simp only; omega)
        rw [← nI_1] at this
        exact kX_lv _ rfl rfl rfl this
      · have q2 := qgeF q2 k 6
        repeat refine kX_one rfl ?_
        refine kX_ialdN rfl rfl (by decide) (24 * i + 6 * s + k) (ix24 i s k) (by omega) ?_
        refine kX_iastN rfl rfl (by decide) (6 * s + k) (ix6 s k) (by omega) ?_
        iterate 2 (refine kX_one rfl ?_)
        have := ih2 (k + 1, upd V2 (6 * s + k) (σ 285 (24 * i + 6 * s + k))) ⟨by simp only; omega, fun s' k' hs' hk' => by
          simp only
          rw [pk_un (by omega)]
          exact j2 s' k' hs' hk', fun k' hk' => by
          simp only at hk' ⊢
          by_cases e : k' = k
          · subst e
            exact pk_us
          · rw [pk_un (by omega)]
            exact j3 k' (by omega)⟩ (by simp only; omega)
        dsimp only at this
        rw [← nI_1] at this
        refine kX_to _ _ rfl rfl rfl ?_ this
        funext c; unfold  va_up; repeat' split
        all_goals first | rfl | omega | (subst_vars; rfl) | (funext j; unfold upd; repeat' split; all_goals first | rfl | omega | (subst_vars; rfl))
    iterate 3 (refine kX_one rfl ?_)
    refine kX_top (hS) ?_
    repeat refine kX_one rfl ?_
    refine kX_if (fun q => ?_) (fun q => ?_)
    · have q := qge q s S
      obtain rfl : s = S := by omega
      refine kX_ret (i := .return_) (len := 1) rfl (Or.inr rfl) rfl (⟨rfl, D, V, rfl, i2, i3⟩)
    · have q := qgeF q s S
      repeat refine kX_one rfl ?_
      refine kX_ialdN rfl rfl (by decide) (4 * i + s) (ix4 i s) (by omega) ?_
      refine kX_iastN rfl rfl (by decide) (s) (by first | rfl | decide) (by omega) ?_
      iterate 2 (refine kX_one rfl ?_)
      have := loopB q (0, V) ⟨Nat.zero_le _, i3, fun k hk => absurd hk (Nat.not_lt_zero k)⟩
      refine kX_to _ _ rfl rfl rfl ?_ this
      funext c; unfold  va_up; repeat' split
      all_goals first | rfl | omega | (subst_vars; rfl) | (funext j; unfold upd; repeat' split; all_goals first | rfl | omega | (subst_vars; rfl))
set_option maxRecDepth 100000 in
set_option maxHeartbeats 4000000 in
theorem mr_isThere (L : Nat) (xs : Nat → Int32) (d : Nat) (σ : kS) (S N : Nat) (hS : σ 232 27 = nI S) (hS4 : S ≤ 4) (hN : σ 232 69 = nI N) (hN6 : N ≤ 600) : kXM kT L xs (d + 1) 212 [.ref 232] σ (fun r σ' => (∃ P : Prop, r = some (.int (isB P))) ∧ σ = σ') := by
  unfold kXM
  have k127 : ∀ (P : Prop) lv, nk lv = true → ([(1, Value.int (isB P))] : jL).map (fun q => jl lv q.1) = ([(1, Value.int (isB P))] : jL).map (fun q => some q.2) → kX kT L xs (d + 1) 212 127 lv [] σ (fun r σ' => (∃ P : Prop, r = some (.int (isB P))) ∧ σ = σ') := by
    intro P lv hk hlv
    refine kX_lv _ hk rfl hlv ?_
    repeat refine kX_one rfl ?_
    refine kX_ret (i := .ireturn) (len := 1) rfl (Or.inr rfl) (jend_b rfl (isB_01 P)) (⟨⟨P, rfl⟩, rfl⟩)
  have loopA : ∀ q : Nat × Prop, q.1 ≤ N → kX kT L xs (d + 1) 212 4 [(2, .int (nI q.1)), (1, .int (isB q.2)), (0, .ref 232)] [] σ (fun r σ' => (∃ P : Prop, r = some (.int (isB P))) ∧ σ = σ') := by
    refine kX_while (fun q : Nat × Prop => [(2, .int (nI q.1)), (1, .int (isB q.2)), (0, .ref 232)]) (fun _ => σ) (fun q => q.1 ≤ N) (fun q => N - q.1) ?_
    rintro ⟨i, P⟩ i1 ih
    dsimp only at i1 ih ⊢
    have k121 : i < N → ∀ (P : Prop) lv, nk lv = true → ([(2, .int (nI i)), (1, Value.int (isB P)), (0, .ref 232)] : jL).map (fun q => jl lv q.1) = ([(2, .int (nI i)), (1, Value.int (isB P)), (0, .ref 232)] : jL).map (fun q => some q.2) → kX kT L xs (d + 1) 212 121 lv [] σ (fun r σ' => (∃ P : Prop, r = some (.int (isB P))) ∧ σ = σ') := by
      intro hiN P lv hk hlv
      refine kX_lv _ hk rfl hlv ?_
      iterate 2 (refine kX_one rfl ?_)
      have := ih (i + 1, P) hiN (by simp only; omega)
      dsimp only at this
      rw [← nI_1] at this
      exact kX_lv _ rfl rfl rfl this
    have loopB : i < N → ∀ q : Nat × Prop, q.1 ≤ S → kX kT L xs (d + 1) 212 20 [(3, .int (nI q.1)), (2, .int (nI i)), (1, .int (isB q.2)), (0, .ref 232)] [] σ (fun r σ' => (∃ P : Prop, r = some (.int (isB P))) ∧ σ = σ') := by
      intro hiN
      refine kX_while (fun q : Nat × Prop => [(3, .int (nI q.1)), (2, .int (nI i)), (1, .int (isB q.2)), (0, .ref 232)]) (fun _ => σ) (fun q => q.1 ≤ S) (fun q => S - q.1) ?_
      rintro ⟨s, P⟩ j1 ih2
      dsimp only at j1 ih2 ⊢
      have k115 : s < S → ∀ (P : Prop) lv, nk lv = true → ([(3, .int (nI s)), (2, .int (nI i)), (1, Value.int (isB P)), (0, .ref 232)] : jL).map (fun q => jl lv q.1) = ([(3, .int (nI s)), (2, .int (nI i)), (1, Value.int (isB P)), (0, .ref 232)] : jL).map (fun q => some q.2) → kX kT L xs (d + 1) 212 115 lv [] σ (fun r σ' => (∃ P : Prop, r = some (.int (isB P))) ∧ σ = σ') := by
        intro hsS P lv hk hlv
        refine kX_lv _ hk rfl hlv ?_
        iterate 2 (refine kX_one rfl ?_)
        have := ih2 (s + 1, P) hsS (by simp only; omega)
        dsimp only at this
        rw [← nI_1] at this
        exact kX_lv _ rfl rfl rfl this
      have loopC : s < S → ∀ q : Nat × Prop, q.1 ≤ 6 → kX kT L xs (d + 1) 212 60 [(4, .int (nI q.1)), (3, .int (nI s)), (2, .int (nI i)), (1, .int (isB q.2)), (0, .ref 232)] [] σ (fun r σ' => (∃ P : Prop, r = some (.int (isB P))) ∧ σ = σ') := by
        intro hsS
        refine kX_while (fun q : Nat × Prop => [(4, .int (nI q.1)), (3, .int (nI s)), (2, .int (nI i)), (1, .int (isB q.2)), (0, .ref 232)]) (fun _ => σ) (fun q => q.1 ≤ 6) (fun q => 6 - q.1) ?_
        rintro ⟨k, P⟩ l1 ih3
        dsimp only at l1 ih3 ⊢
        have k108 : k < 6 → ∀ (P' : Prop), kX kT L xs (d + 1) 212 108 [(4, .int (nI k)), (3, .int (nI s)), (2, .int (nI i)), (1, .int (isB P)), (0, .ref 232)] [.int (isB P')] σ (fun r σ' => (∃ P : Prop, r = some (.int (isB P))) ∧ σ = σ') := by
          intro hk6 P'
          iterate 3 (refine kX_one rfl ?_)
          have := ih3 (k + 1, P') hk6 (by simp only; omega)
          dsimp only at this
          rw [← nI_1] at this
          exact kX_lv _ rfl rfl rfl this
        repeat refine kX_one rfl ?_
        refine kX_if (fun q => ?_) (fun q => ?_)
        · exact k115 hsS P _ rfl rfl
        · have q := qgeF q k 6
          repeat refine kX_one rfl ?_
          refine kX_if (fun q2 => ?_) (fun q2 => ?_)
          · exact k115 hsS P _ rfl rfl
          · repeat refine kX_one rfl ?_
            refine kX_ialdN rfl rfl (by decide) (24 * i + 6 * s + k) (ix24 i s k) (by omega) ?_
            repeat refine kX_one rfl ?_
            refine kX_ialdN rfl rfl (by decide) (6 * s + k) (ix6 s k) (by omega) ?_
            repeat refine kX_one rfl ?_
            refine kX_if (fun q3 => ?_) (fun q3 => ?_)
            · iterate 1 (refine kX_one rfl ?_)
              have := k108 q False
              rw [isB_F (fun z => z)] at this
              exact this
            · iterate 2 (refine kX_one rfl ?_)
              have := k108 q True
              rw [isB_T trivial] at this
              exact this
      have k56 : s < S → ∀ (P' : Prop), kX kT L xs (d + 1) 212 56 [(3, .int (nI s)), (2, .int (nI i)), (1, .int (isB P)), (0, .ref 232)] [.int (isB P')] σ (fun r σ' => (∃ P : Prop, r = some (.int (isB P))) ∧ σ = σ') := by
        intro hsS P'
        iterate 3 (refine kX_one rfl ?_)
        exact kX_lv _ rfl rfl rfl (loopC hsS (0, P') (Nat.zero_le _))
      iterate 3 (refine kX_one rfl ?_)
      refine kX_top (hS) ?_
      repeat refine kX_one rfl ?_
      refine kX_if (fun q => ?_) (fun q => ?_)
      · exact k121 hiN P _ rfl rfl
      · have q := qgeF q s S
        repeat refine kX_one rfl ?_
        refine kX_if (fun q2 => ?_) (fun q2 => ?_)
        · exact k121 hiN P _ rfl rfl
        · repeat refine kX_one rfl ?_
          refine kX_ialdN rfl rfl (by decide) (4 * i + s) (ix4 i s) (by omega) ?_
          repeat refine kX_one rfl ?_
          refine kX_ialdN rfl rfl (by decide) (s) (by first | rfl | decide) (by omega) ?_
          repeat refine kX_one rfl ?_
          refine kX_if (fun q3 => ?_) (fun q3 => ?_)
          · iterate 1 (refine kX_one rfl ?_)
            have := k56 q False
            rw [isB_F (fun z => z)] at this
            exact this
          · iterate 2 (refine kX_one rfl ?_)
            have := k56 q True
            rw [isB_T trivial] at this
            exact this
    iterate 3 (refine kX_one rfl ?_)
    refine kX_top (hN) ?_
    repeat refine kX_one rfl ?_
    refine kX_if (fun q => ?_) (fun q => ?_)
    · exact k127 P _ rfl rfl
    · have q := qgeF q i N
      repeat refine kX_one rfl ?_
      refine kX_if (fun q2 => ?_) (fun q2 => ?_)
      · exact k127 P _ rfl rfl
      · iterate 4 (refine kX_one rfl ?_)
        have := loopB q (0, True) (Nat.zero_le _)
        dsimp only at this
        rw [isB_T trivial] at this
        exact kX_lv _ rfl rfl rfl this
  iterate 4 (refine kX_one rfl ?_)
  have := loopA (0, False) (Nat.zero_le _)
  dsimp only at this
  rw [isB_F (fun z => z)] at this
  exact kX_lv _ rfl rfl rfl this
