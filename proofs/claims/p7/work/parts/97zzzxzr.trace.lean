/-! alike: allHaveDoneAll, hasSecrets, tracePath; a STATE of the search -/
/-- the reference with the STATE a -/
def stI (σ : kS) (a : Nat → Int32) : kS := va_up (va_up σ 264 (fun s => a (7 * s))) 265 (fun j => nnI (a (7 * (j / 6) + 1 + j % 6)))
theorem stI_vw (σ : kS) (a : Nat → Int32) : vw σ (stI σ a) := ⟨fun c _ c2 c3 _ _ => by unfold stI; rw [up_ne c3, up_ne c2], fun _ _ _ _ => rfl⟩
theorem stI_do (σ : kS) (a : Nat → Int32) (s : Nat) : stI σ a 264 s = a (7 * s) := rfl
theorem stI_va (σ : kS) (a : Nat → Int32) {s k : Nat} (hk : k < 6) : stI σ a 265 (6 * s + k) = nnI (a (7 * s + 1 + k)) := by
  show nnI (a (7 * ((6 * s + k) / 6) + 1 + (6 * s + k) % 6)) = _
  rw [show (6 * s + k) / 6 = s by omega, show (6 * s + k) % 6 = k by omega]
/-- the STATE in the cells A from base on -/
def stF (σ : kS) (A base S : Nat) : Nat → Int32 := fun i => if i < 7 * S then σ A (base + i) else 0
theorem stF_staV (σ : kS) (A base S : Nat) (hA : A < 232) : staV (stI σ (stF σ A base S)) A base S := fun s hs => by
  have e : stI σ (stF σ A base S) A = σ A := vw_low (stI_vw σ _) hA
  rw [e, stI_do]
  refine ⟨?_, fun k hk => ?_⟩
  · unfold stF
    rw [if_pos (by omega)]
  · rw [stI_va σ _ hk]
    unfold stF
    rw [if_pos (by omega), show base + (7 * s + 1 + k) = base + 7 * s + 1 + k by omega]
theorem stF_eq {σ : kS} {A base A' base' S : Nat} : stF σ A base S = stF σ A' base' S ↔ ∀ j, j < 7 * S → σ A (base + j) = σ A' (base' + j) := by
  refine ⟨fun h j hj => ?_, fun h => ?_⟩
  · have := congrFun h j
    unfold stF at this
    rw [if_pos hj, if_pos hj] at this
    exact this
  · funext j
    unfold stF
    by_cases q : j < 7 * S
    · rw [if_pos q, if_pos q]
      exact h j q
    · rw [if_neg q, if_neg q]
set_option maxRecDepth 100000 in
set_option maxHeartbeats 4000000 in
theorem mf_allDone (L : Nat) (xs : Nat → Int32) (d : Nat) (σ : kS) (n R S C A M base : Nat) (g0 : Nat → Int32) (hB : cB σ n R S C) (hA : kT[A]? = some (.inl (0, M, .inl g0))) (hM : M ≤ 100000) (hbm : base + 28 ≤ M) : kXM kT L xs (d + 3) 20 [.ref 13, .ref A, .int (nI base)] σ (fun q σ' => q = some (.int (isB (∀ s, s < S → cHd σ A base s))) ∧ σ = σ') := by
  obtain ⟨hRo, ⟨hS4, hSc, hSr⟩, -⟩ := hB
  have loop : ∀ q : Nat, (q ≤ S ∧ ∀ s, s < q → cHd σ A base s) → kX kT L xs (d + 3) 20 2 [(3, .int (nI q)), (0, .ref 13), (1, .ref A), (2, .int (nI base))] [] σ (fun q σ' => q = some (.int (isB (∀ s, s < S → cHd σ A base s))) ∧ σ = σ') := by
    refine kX_while (fun q => [(3, .int (nI q)), (0, .ref 13), (1, .ref A), (2, .int (nI base))]) (fun _ => σ) _ (fun q => S - q) ?_
    intro i ⟨i1, i2⟩ ih
    iterate 3 (refine kX_one rfl ?_)
    refine kX_top (hSc) ?_
    repeat refine kX_one rfl ?_
    refine kX_if (fun q => ?_) (fun q => ?_)
    · have q := qge q i S
      rw [isB_T (fun s hs => i2 s (by omega))]
      repeat refine kX_one rfl ?_
      refine kX_ret (i := .ireturn) (len := 1) rfl (Or.inr rfl) rfl (⟨rfl, rfl⟩)
    · have q := qgeF q i S
      iterate 4 (refine kX_one rfl ?_)
      refine kX_cal (mf_hasDoneAll L xs d σ n R S A M base i g0 hRo hS4 hSr q hA hM hbm) rfl (Or.inr rfl) rfl rfl rfl (fun r1 σ1 q1 => ?_)
      obtain ⟨rfl, rfl⟩ := q1
      by_cases hh : cHd σ A base i
      · rw [isB_T hh]
        iterate 3 (refine kX_one rfl ?_)
        have := ih (i + 1) ⟨by omega, fun s hs => by
          by_cases e : s = i
          · subst e
            exact hh
          · exact i2 s (by omega)⟩ (by omega)
        rw [← nI_1] at this
        exact kX_lv _ rfl rfl rfl this
      · rw [isB_F hh, isB_F (fun z => hh (z i q))]
        repeat refine kX_one rfl ?_
        refine kX_ret (i := .ireturn) (len := 1) rfl (Or.inr rfl) rfl (⟨rfl, rfl⟩)
  unfold kXM
  iterate 2 (refine kX_one rfl ?_)
  exact kX_lv _ rfl rfl rfl (loop 0 ⟨Nat.zero_le _, fun s hs => absurd hs (Nat.not_lt_zero s)⟩)
set_option maxRecDepth 100000 in
set_option maxHeartbeats 4000000 in
theorem mf_hasSecrets (L : Nat) (xs : Nat → Int32) (d : Nat) (σ : kS) (C : Nat) (hC : cCl σ C) : kXM kT L xs (d + 1) 23 [.ref 13] σ (fun q σ' => q = some (.int (isB (∃ c, c < C ∧ σ (163 + 3 * c) 0 ≠ 0))) ∧ σ = σ') := by
  obtain ⟨hC6, hCc, -⟩ := hC
  have loop : ∀ q : Nat, (q ≤ C ∧ ∀ c, c < q → σ (163 + 3 * c) 0 = 0) → kX kT L xs (d + 1) 23 2 [(1, .int (nI q)), (0, .ref 13)] [] σ (fun q σ' => q = some (.int (isB (∃ c, c < C ∧ σ (163 + 3 * c) 0 ≠ 0))) ∧ σ = σ') := by
    refine kX_while (fun q => [(1, .int (nI q)), (0, .ref 13)]) (fun _ => σ) _ (fun q => C - q) ?_
    intro i ⟨i1, i2⟩ ih
    iterate 3 (refine kX_one rfl ?_)
    refine kX_top (hCc) ?_
    repeat refine kX_one rfl ?_
    refine kX_if (fun q => ?_) (fun q => ?_)
    · have q := qge q i C
      rw [isB_F (fun ⟨c, c1, c2⟩ => c2 (i2 c (by omega)))]
      repeat refine kX_one rfl ?_
      refine kX_ret (i := .ireturn) (len := 1) rfl (Or.inr rfl) rfl (⟨rfl, rfl⟩)
    · have q := qgeF q i C
      have hi6 : i < 6 := by omega
      iterate 3 (refine kX_one rfl ?_)
      refine kX_aaldN rfl (rfl) (by decide) (by decide) (by decide) (i) (by first | rfl | decide) (hi6) (cl_at hi6) ?_
      refine kX_getN rfl rfl (kT_cl hi6) rfl ?_
      repeat refine kX_one rfl ?_
      refine kX_if (fun q2 => ?_) (fun q2 => ?_)
      · have q2 := qeq q2
        iterate 2 (refine kX_one rfl ?_)
        have := ih (i + 1) ⟨by omega, fun c hc => by
          by_cases e : c = i
          · subst e
            exact q2
          · exact i2 c (by omega)⟩ (by omega)
        rw [← nI_1] at this
        exact kX_lv _ rfl rfl rfl this
      · have q2 := qeqF q2
        rw [isB_T ⟨i, q, q2⟩]
        repeat refine kX_one rfl ?_
        refine kX_ret (i := .ireturn) (len := 1) rfl (Or.inr rfl) rfl (⟨rfl, rfl⟩)
  unfold kXM
  iterate 2 (refine kX_one rfl ?_)
  exact kX_lv _ rfl rfl rfl (loop 0 ⟨Nat.zero_le _, fun c hc => absurd hc (Nat.not_lt_zero c)⟩)
set_option maxRecDepth 100000 in
set_option maxHeartbeats 4000000 in
theorem mf_tracePath (L : Nat) (xs : Nat → Int32) (d : Nat) (τ : kS) (N l D : Nat) (hN : N ≤ 600) (hl : l < N) (hp : ∀ i, 0 < i → i < N → ∃ j, j < i ∧ τ 198 i = nI j) (hD : D ≤ 24) (hD1 : ∀ j, j < D → 0 < tpI (τ 198) l j) (hD2 : tpI (τ 198) l D = 0) : kXM kT L xs (d + 1) 85 [.ref 195, .int (nI l)] τ (fun r ω => r = none ∧ (∀ c, c ≠ 195 → c ≠ 203 → ω c = τ c) ∧ (∀ j, j ≠ 9 → ω 195 j = τ 195 j) ∧ ω 195 9 = nI D ∧ ∀ k, k < D → ω 203 k = τ 199 (tpI (τ 198) l (D - 1 - k))) := by
  have hlt : ∀ j, j ≤ D → tpI (τ 198) l j < N := by
    intro j
    induction j with
    | zero => intro _; exact hl
    | succ j ih =>
      intro hj
      obtain ⟨j', y1, y2⟩ := hp _ (hD1 j (by omega)) (ih (by omega))
      have := ih (by omega)
      show fN (τ 198 (tpI (τ 198) l j)) < N
      rw [y2, fN_nI (by omega)]
      omega
  have k30 : ∀ lv, nk lv = true → ([(0, .ref 195), (1, .int (nI l)), (2, .int (nI D))] : jL).map (fun q => jl lv q.1) = ([(0, .ref 195), (1, .int (nI l)), (2, Value.int (nI D))] : jL).map (fun q => some q.2) → kX kT L xs (d + 1) 85 30 lv [] τ (fun r ω => r = none ∧ (∀ c, c ≠ 195 → c ≠ 203 → ω c = τ c) ∧ (∀ j, j ≠ 9 → ω 195 j = τ 195 j) ∧ ω 195 9 = nI D ∧ ∀ k, k < D → ω 203 k = τ 199 (tpI (τ 198) l (D - 1 - k))) := by
    intro lv hk hlv
    refine kX_lv _ hk rfl hlv ?_
    have loop : ∀ q : Nat × (Nat → Int32), (q.1 ≤ D ∧ ∀ j, q.1 ≤ j → j < D → q.2 j = τ 199 (tpI (τ 198) l (D - 1 - j))) → kX kT L xs (d + 1) 85 42 [(4, .int (pv q.1)), (3, .int (nI (tpI (τ 198) l (D - q.1)))), (0, .ref 195)] [] (va_up (va_up τ 195 (upd (τ 195) 9 (nI D))) 203 q.2) (fun r ω => r = none ∧ (∀ c, c ≠ 195 → c ≠ 203 → ω c = τ c) ∧ (∀ j, j ≠ 9 → ω 195 j = τ 195 j) ∧ ω 195 9 = nI D ∧ ∀ k, k < D → ω 203 k = τ 199 (tpI (τ 198) l (D - 1 - k))) := by
      refine kX_while (fun q : Nat × (Nat → Int32) => [(4, .int (pv q.1)), (3, .int (nI (tpI (τ 198) l (D - q.1)))), (0, .ref 195)]) (fun q => va_up (va_up τ 195 (upd (τ 195) 9 (nI D))) 203 q.2) _ (fun q => q.1) ?_
      rintro ⟨q, A⟩ ⟨j1, j2⟩ ih
      dsimp only at j1 j2 ih ⊢
      cases q with
      | zero =>
        show kX kT L xs (d + 1) 85 42 [(4, .int (-1)), (3, .int (nI (tpI (τ 198) l (D - 0)))), (0, .ref 195)] [] _ _
        iterate 2 (refine kX_one rfl ?_)
        refine kX_ret (i := .return_) (len := 1) rfl (Or.inr rfl) rfl (⟨rfl, fun c c1 c2 => by rw [up_ne c2, up_ne c1], fun j hj => pk_un hj, rfl, fun k hk => j2 k (Nat.zero_le _) hk⟩)
      | succ k =>
        show kX kT L xs (d + 1) 85 42 [(4, .int (nI k)), (3, .int (nI (tpI (τ 198) l (D - (k + 1))))), (0, .ref 195)] [] _ _
        have s1 := hD1 (D - (k + 1)) (by omega)
        have s2 := hlt (D - (k + 1)) (by omega)
        have hnx : tpI (τ 198) l (D - k) = fN (τ 198 (tpI (τ 198) l (D - (k + 1)))) := by
          rw [show D - k = D - (k + 1) + 1 by omega]
          rfl
        have e1 : D - 1 - k = D - (k + 1) := by omega
        have hmv : τ 199 (tpI (τ 198) l (D - 1 - k)) = τ 199 (tpI (τ 198) l (D - (k + 1))) := by rw [e1]
        generalize tpI (τ 198) l (D - (k + 1)) = s at *
        obtain ⟨j, y1, y2⟩ := hp s s1 s2
        have hj : tpI (τ 198) l (D - k) = j := by
          rw [hnx, y2]
          exact fN_nI (by omega)
        repeat refine kX_one rfl ?_
        refine kX_ifF (decide_eq_false (nI_pos (by omega))) ?_
        iterate 7 (refine kX_one rfl ?_)
        refine kX_ialdN rfl rfl (by decide) (s) (by first | rfl | decide) (by omega) ?_
        refine kX_iastN rfl rfl (by decide) (k) (by first | rfl | decide) (by omega) ?_
        iterate 4 (refine kX_one rfl ?_)
        refine kX_ialdV rfl rfl (by decide) (s) (by first | rfl | decide) (by omega) (y2) ?_
        iterate 3 (refine kX_one rfl ?_)
        have := ih (k, upd A k (τ 199 s)) ⟨by simp only; omega, fun j' a b => by
          simp only
          by_cases e : j' = k
          · subst e
            rw [pk_us, hmv]
          · rw [pk_un e]
            exact j2 j' (by simp only at a; omega) b⟩ (by simp only; omega)
        dsimp only at this
        rw [pv_dec, hj] at this
        refine kX_to _ _ rfl rfl rfl ?_ this
        funext c; unfold  va_up; repeat' split
        all_goals first | rfl | omega | (subst_vars; rfl) | (funext j; unfold upd; repeat' split; all_goals first | rfl | omega | (subst_vars; rfl))
    iterate 8 (refine kX_one rfl ?_)
    refine kX_top (y := pv D) (pv_sub D) ?_
    iterate 1 (refine kX_one rfl ?_)
    have := loop (D, τ 203) ⟨Nat.le_refl _, fun j a b => by simp only at a; omega⟩
    dsimp only at this
    rw [Nat.sub_self] at this
    refine kX_to _ _ rfl rfl rfl ?_ this
    funext c; unfold  va_up; repeat' split
    all_goals first | rfl | omega | (subst_vars; rfl) | (funext j; unfold upd; repeat' split; all_goals first | rfl | omega | (subst_vars; rfl))
  have loop : ∀ q : Nat, q ≤ D → kX kT L xs (d + 1) 85 4 [(2, .int (nI q)), (3, .int (nI (tpI (τ 198) l q))), (0, .ref 195), (1, .int (nI l))] [] τ (fun r ω => r = none ∧ (∀ c, c ≠ 195 → c ≠ 203 → ω c = τ c) ∧ (∀ j, j ≠ 9 → ω 195 j = τ 195 j) ∧ ω 195 9 = nI D ∧ ∀ k, k < D → ω 203 k = τ 199 (tpI (τ 198) l (D - 1 - k))) := by
    refine kX_while (fun q => [(2, .int (nI q)), (3, .int (nI (tpI (τ 198) l q))), (0, .ref 195), (1, .int (nI l))]) (fun _ => τ) _ (fun q => 24 - q) ?_
    intro i i1 ih
    have i2 := hlt i i1
    repeat refine kX_one rfl ?_
    refine kX_if (fun q => ?_) (fun q => ?_)
    · have q := qle q (tpI (τ 198) l i) 0
      have hiD : i = D := by
        refine Classical.byContradiction (fun e => ?_)
        have := hD1 i (by omega)
        omega
      subst hiD
      exact k30 _ rfl rfl
    · have q := qleF q (tpI (τ 198) l i) 0
      have hiD : i < D := by
        refine Classical.byContradiction (fun e => ?_)
        have : i = D := by omega
        rw [this, hD2] at q
        omega
      repeat refine kX_one rfl ?_
      refine kX_if (fun q2 => ?_) (fun q2 => ?_)
      · have q2 := qge q2 i 24
        omega
      · obtain ⟨j, y1, y2⟩ := hp _ q i2
        have hj : tpI (τ 198) l (i + 1) = j := by
          show fN (τ 198 (tpI (τ 198) l i)) = j
          rw [y2]
          exact fN_nI (by omega)
        iterate 5 (refine kX_one rfl ?_)
        refine kX_ialdV rfl rfl (by decide) (tpI (τ 198) l i) (by first | rfl | decide) (by omega) (y2) ?_
        iterate 2 (refine kX_one rfl ?_)
        have := ih (i + 1) hiD (by omega)
        rw [hj, ← nI_1] at this
        exact kX_lv _ rfl rfl rfl this
  unfold kXM
  iterate 4 (refine kX_one rfl ?_)
  exact kX_lv _ rfl rfl rfl (loop 0 (Nat.zero_le _))
