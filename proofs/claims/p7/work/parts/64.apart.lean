/-! the reference: fits, isApart, isBroken -/
theorem isB_iff {P Q : Prop} (h : P ↔ Q) : isB P = isB Q := by rw [propext h]
theorem ix4 (c k : Nat) : Int32.ofInt 4 * nI c + nI k = nI (4 * c + k) := by
  rw [show Int32.ofInt 4 = nI 4 from rfl, pk_mul, nI_add]
def mJn (σ : kS) (c s o k : Nat) : Prop := ¬ σ 265 (6 * s + fN (σ 262 (4 * c + k))) < 0 ∧ σ 265 (6 * s + fN (σ 262 (4 * c + k))) = σ 265 (6 * o + fN (σ 263 (4 * c + k)))
/-- the session o may be the partner of s -/
def mFit (σ : kS) (c s o : Nat) : Prop := (s ≠ o ∧ σ 255 o = σ 259 c ∧ σ 260 c ≤ σ 264 o) ∧ ∀ k, k < fN (σ 261 c) → mJn σ c s o k
set_option maxRecDepth 100000 in
set_option maxHeartbeats 4000000 in
theorem mr_fits (L : Nat) (xs : Nat → Int32) (d : Nat) (σ : kS) (n R C c s o : Nat) (hR : mRo σ n R) (hC : mCl σ R C) (hc : c < C) (hs : s < 4) (ho : o < 4) : kXM kT L xs (d + 1) 187 [.ref 232, .int (nI c), .int (nI s), .int (nI o)] σ (fun r σ' => r = some (.int (isB (mFit σ c s o))) ∧ σ = σ') := by
  obtain ⟨cb, ca, nn, j, c1, c2, c3, -, -, c6, c7, c8, c9, c10⟩ := hC.2.2 c hc
  have hC6 := hC.1
  have hvs : ∀ r, r < R → fN (σ 244 r) ≤ 6 := fun r hr => by
    obtain ⟨⟨v, h1, h2⟩, -⟩ := hR.2.2.1 r hr
    rw [h2, fN_nI (by omega)]
    exact h1
  have hfj : fN (σ 261 c) = j := by rw [c9]; exact fN_nI (by omega)
  unfold kXM
  have loop := kX_while (T := kT) (L := L) (xs := xs) (d := d + 1) (mi := 187) (pc := 45) (Q := fun r σ' => r = some (.int (isB (mFit σ c s o))) ∧ σ = σ')
    (fun k : Nat => [(5, .int (nI k)), (4, .int (isB ((s ≠ o ∧ σ 255 o = σ 259 c ∧ σ 260 c ≤ σ 264 o) ∧ ∀ i, i < k → mJn σ c s o i))), (0, .ref 232), (1, .int (nI c)), (2, .int (nI s)), (3, .int (nI o))]) (fun _ => σ) (fun k => k ≤ j) (fun k => j - k) ?_ 0 (Nat.zero_le _)
  · have head : ∀ P : Prop, (P ↔ (s ≠ o ∧ σ 255 o = σ 259 c ∧ σ 260 c ≤ σ 264 o)) → kX kT L xs (d + 1) 187 40 [(0, .ref 232), (1, .int (nI c)), (2, .int (nI s)), (3, .int (nI o))] [.int (isB P)] σ (fun r σ' => r = some (.int (isB (mFit σ c s o))) ∧ σ = σ') := by
      intro P hP
      iterate 3 (refine kX_one rfl ?_)
      refine kX_lv _ rfl rfl ?_ loop
      have e : isB ((s ≠ o ∧ σ 255 o = σ 259 c ∧ σ 260 c ≤ σ 264 o) ∧ ∀ i, i < 0 → mJn σ c s o i) = isB P := by
        exact isB_iff ⟨fun z => hP.mpr z.1, fun z => ⟨hP.mp z, fun i hi => absurd hi (Nat.not_lt_zero i)⟩⟩
      rw [e]
      rfl
    have no : ¬ (s ≠ o ∧ σ 255 o = σ 259 c ∧ σ 260 c ≤ σ 264 o) → kX kT L xs (d + 1) 187 39 [(0, .ref 232), (1, .int (nI c)), (2, .int (nI s)), (3, .int (nI o))] [] σ (fun r σ' => r = some (.int (isB (mFit σ c s o))) ∧ σ = σ') := by
      intro hz
      iterate 1 (refine kX_one rfl ?_)
      have := head False ⟨False.elim, hz⟩
      rw [isB_F id] at this
      exact this
    repeat refine kX_one rfl ?_
    refine kX_if (fun q => ?_) (fun q => ?_)
    · exact no (fun z => z.1 (nI_inj (qeq q)))
    · have q : s ≠ o := fun e => qeqF q (by rw [e])
      repeat refine kX_one rfl ?_
      refine kX_ialdN rfl rfl (by decide) (o) (by first | rfl | decide) (ho) ?_
      repeat refine kX_one rfl ?_
      refine kX_ialdN rfl rfl (by decide) (c) (by first | rfl | decide) (by omega) ?_
      repeat refine kX_one rfl ?_
      refine kX_if (fun q2 => ?_) (fun q2 => ?_)
      · exact no (fun z => qne q2 z.2.1)
      · have q2 := qneF q2
        repeat refine kX_one rfl ?_
        refine kX_ialdN rfl rfl (by decide) (o) (by first | rfl | decide) (ho) ?_
        repeat refine kX_one rfl ?_
        refine kX_ialdN rfl rfl (by decide) (c) (by first | rfl | decide) (by omega) ?_
        repeat refine kX_one rfl ?_
        refine kX_if (fun q3 => ?_) (fun q3 => ?_)
        · have q3 : σ 264 o < σ 260 c := of_decide_eq_true q3
          exact no (fun z => Int32.not_le.mpr q3 z.2.2)
        · have q3 : σ 260 c ≤ σ 264 o := Int32.not_lt.mp (of_decide_eq_false q3)
          iterate 2 (refine kX_one rfl ?_)
          have := head True ⟨fun _ => ⟨q, q2, q3⟩, fun _ => trivial⟩
          rw [isB_T trivial] at this
          exact this
  · intro k hk ih
    have fin : (isB ((s ≠ o ∧ σ 255 o = σ 259 c ∧ σ 260 c ≤ σ 264 o) ∧ ∀ i, i < k → mJn σ c s o i) = isB (mFit σ c s o)) → kX kT L xs (d + 1) 187 128 [(5, .int (nI k)), (4, .int (isB ((s ≠ o ∧ σ 255 o = σ 259 c ∧ σ 260 c ≤ σ 264 o) ∧ ∀ i, i < k → mJn σ c s o i))), (0, .ref 232), (1, .int (nI c)), (2, .int (nI s)), (3, .int (nI o))] [] σ (fun r σ' => r = some (.int (isB (mFit σ c s o))) ∧ σ = σ') := by
      intro e
      iterate 1 (refine kX_one rfl ?_)
      refine kX_ret (i := .ireturn) (len := 1) rfl (Or.inr rfl) (jend_b rfl (isB_01 _)) (⟨by rw [e], rfl⟩)
    repeat refine kX_one rfl ?_
    refine kX_ialdV rfl rfl (by decide) (c) (by first | rfl | decide) (by omega) (c9) ?_
    repeat refine kX_one rfl ?_
    refine kX_if (fun q => ?_) (fun q => ?_)
    · have q := qge q k j
      obtain rfl : k = j := by omega
      refine fin ?_
      unfold mFit
      rw [hfj]
    · have q := qgeF q k j
      repeat refine kX_one rfl ?_
      refine kX_if (fun q2 => ?_) (fun q2 => ?_)
      · have q2 := fun z => isB_ne.mpr z (qeq q2)
        refine fin ?_
        rw [isB_F q2, isB_F (fun z => q2 ⟨z.1, fun i hi => z.2 i (by omega)⟩)]
      · have q2 := isB_ne.mp (qeqF q2)
        obtain ⟨x, y, x1, y1, y2, x3, y3⟩ := c10 k q
        have hx6 := hvs cb c1
        have hy6 := hvs ca y2
        have hfx : fN (σ 262 (4 * c + k)) = x := by rw [x3]; exact fN_nI (by omega)
        have hfy : fN (σ 263 (4 * c + k)) = y := by rw [y3]; exact fN_nI (by omega)
        have back : ∀ P : Prop, (P ↔ mJn σ c s o k) → ∀ lv, nk lv = true → ([(5, Value.int (nI k)), (0, .ref 232), (1, .int (nI c)), (2, .int (nI s)), (3, .int (nI o))] : jL).map (fun q => jl lv q.1) = ([(5, Value.int (nI k)), (0, .ref 232), (1, .int (nI c)), (2, .int (nI s)), (3, .int (nI o))] : jL).map (fun q => some q.2) → kX kT L xs (d + 1) 187 120 lv [.int (isB P)] σ (fun r σ' => r = some (.int (isB (mFit σ c s o))) ∧ σ = σ') := by
          intro P hP lv hkk hlv
          refine kX_lv _ hkk rfl hlv ?_
          iterate 3 (refine kX_one rfl ?_)
          have := ih (k + 1) q (by omega)
          have e : isB ((s ≠ o ∧ σ 255 o = σ 259 c ∧ σ 260 c ≤ σ 264 o) ∧ ∀ i, i < k + 1 → mJn σ c s o i) = isB P := by
            refine isB_iff ⟨fun z => hP.mpr (z.2 k (by omega)), fun z => ⟨q2.1, fun i hi => ?_⟩⟩
            by_cases e : i = k
            · subst e
              exact hP.mp z
            · exact q2.2 i (by omega)
          rw [e, ← nI_1] at this
          exact kX_lv _ rfl rfl rfl this
        have no : ¬ mJn σ c s o k → ∀ lv, nk lv = true → ([(5, Value.int (nI k)), (0, .ref 232), (1, .int (nI c)), (2, .int (nI s)), (3, .int (nI o))] : jL).map (fun q => jl lv q.1) = ([(5, Value.int (nI k)), (0, .ref 232), (1, .int (nI c)), (2, .int (nI s)), (3, .int (nI o))] : jL).map (fun q => some q.2) → kX kT L xs (d + 1) 187 119 lv [] σ (fun r σ' => r = some (.int (isB (mFit σ c s o))) ∧ σ = σ') := by
          intro hz lv hkk hlv
          iterate 1 (refine kX_one rfl ?_)
          have := back False ⟨False.elim, hz⟩ lv hkk hlv
          rw [isB_F id] at this
          exact this
        repeat refine kX_one rfl ?_
        refine kX_ialdV (v := nI x) rfl rfl (by decide) (4 * c + k) (ix4 c k) (by omega) x3 ?_
        iterate 1 (refine kX_one rfl ?_)
        refine kX_ialdN rfl rfl (by decide) (6 * s + x) (ix6 s x) (by omega) ?_
        repeat refine kX_one rfl ?_
        refine kX_if (fun q3 => ?_) (fun q3 => ?_)
        · have q3 : σ 265 (6 * s + x) < 0 := of_decide_eq_true q3
          exact no (fun z => z.1 (by rw [hfx]; exact q3)) _ rfl rfl
        · have q3 : ¬ σ 265 (6 * s + x) < 0 := of_decide_eq_false q3
          repeat refine kX_one rfl ?_
          refine kX_ialdV (v := nI y) rfl rfl (by decide) (4 * c + k) (ix4 c k) (by omega) y3 ?_
          iterate 1 (refine kX_one rfl ?_)
          refine kX_ialdN rfl rfl (by decide) (6 * o + y) (ix6 o y) (by omega) ?_
          repeat refine kX_one rfl ?_
          refine kX_if (fun q4 => ?_) (fun q4 => ?_)
          · have q4 : σ 265 (6 * s + x) ≠ σ 265 (6 * o + y) := qne q4
            exact no (fun z => q4 (by have := z.2; rw [hfx, hfy] at this; exact this)) _ rfl rfl
          · have q4 : σ 265 (6 * s + x) = σ 265 (6 * o + y) := qneF q4
            iterate 2 (refine kX_one rfl ?_)
            have := back True ⟨fun _ => ⟨by rw [hfx]; exact q3, by rw [hfx, hfy]; exact q4⟩, fun _ => trivial⟩ [(6, .int (σ 265 (6 * s + x))), (5, .int (nI k)), (4, .int (isB ((s ≠ o ∧ σ 255 o = σ 259 c ∧ σ 260 c ≤ σ 264 o) ∧ ∀ i, i < k → mJn σ c s o i))), (0, .ref 232), (1, .int (nI c)), (2, .int (nI s)), (3, .int (nI o))] rfl rfl
            rw [isB_T trivial] at this
            exact this
