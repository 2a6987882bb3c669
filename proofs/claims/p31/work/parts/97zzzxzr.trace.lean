section
/-! alike: allHaveDoneAll, hasSecrets, tracePath; a STATE of the search -/
/-- the reference with the STATE a -/
def stI (σ : kS) (a : Nat → Int32) : kS := va_up (va_up σ 264 (fun s => a (7 * s))) 265 (fun j => nnI (a (7 * (j / 6) + 1 + j % 6)))
theorem stI_vw (σ : kS) (a : Nat → Int32) : vw σ (stI σ a) := ⟨fun c _ c2 c3 _ _ => by unfold stI; rw [up_ne c3, up_ne c2], fun _ _ _ _ => rfl⟩
theorem stI_do (σ : kS) (a : Nat → Int32) (s : Nat) : stI σ a 264 s = a (7 * s) := rfl
theorem stI_va (σ : kS) (a : Nat → Int32) {s k : Nat} (hk : k < 6) : stI σ a 265 (6 * s + k) = nnI (a (7 * s + 1 + k)) := by
  show nnI (a (7 * ((6 * s + k) / 6) + 1 + (6 * s + k) % 6)) = _
  rw [show (6 * s + k) / 6 = s by omega, show (6 * s + k) % 6 = k by omega]
/-- the STATE in the cells A from base on -/
def stF (σ : kS) (A base S : Nat) : Nat → Int32 := fun i => if i < 7 * S then σ A (base + i) else 0
theorem stF_staV (σ : kS) (A base S : Nat) (hA : A < 232) : staV (stI σ (stF σ A base S)) A base S := fun s hs => by
  have e : stI σ (stF σ A base S) A = σ A := vw_low (stI_vw σ _) hA
  rw [e, stI_do]
  refine ⟨?_, fun k hk => ?_⟩
  · unfold stF
    rw [if_pos (by omega)]
  · rw [stI_va σ _ hk]
    unfold stF
    rw [if_pos (by omega), show base + (7 * s + 1 + k) = base + 7 * s + 1 + k by omega]
theorem stF_eq {σ : kS} {A base A' base' S : Nat} : stF σ A base S = stF σ A' base' S ↔ ∀ j, j < 7 * S → σ A (base + j) = σ A' (base' + j) := by
  refine ⟨fun h j hj => ?_, fun h => ?_⟩
  · have := congrFun h j
    unfold stF at this
    rw [if_pos hj, if_pos hj] at this
    exact this
  · funext j
    unfold stF
    by_cases q : j < 7 * S
    · rw [if_pos q, if_pos q]
      exact h j q
    · rw [if_neg q, if_neg q]
set_option maxRecDepth 100000 in
set_option maxHeartbeats 4000000 in
theorem mf_allDone (L : Nat) (xs : Nat → Int32) (d : Nat) (σ : kS) (n R S C A M base : Nat) (g0 : Nat → Int32) (hB : cB σ n R S C) (hA : kT[A]? = some (.inl (0, M, .inl g0))) (hM : M ≤ 100000) (hbm : base + 28 ≤ M) : kXM kT L xs (d + 3) 20 [.ref 13, .ref A, .int (nI base)] σ (fun q σ' => q = some (.int (isB (∀ s, s < S → cHd σ A base s))) ∧ σ = σ') := by
  obtain ⟨hRo, ⟨hS4, hSc, hSr⟩, -⟩ := hB
  have loop : ∀ q : Nat, (q ≤ S ∧ ∀ s, s < q → cHd σ A base s) → kX kT L xs (d + 3) 20 2 [(3, .int (nI q)), (0, .ref 13), (1, .ref A), (2, .int (nI base))] [] σ (fun q σ' => q = some (.int (isB (∀ s, s < S → cHd σ A base s))) ∧ σ = σ') := by
    refine kX_while (fun q => [(3, .int (nI q)), (0, .ref 13), (1, .ref A), (2, .int (nI base))]) (fun _ => σ) _ (fun q => S - q) ?_
    intro i ⟨i1, i2⟩ ih
    iterate 3 (refine kX_one rfl ?_)
    refine kX_top (hSc) ?_
    repeat refine kX_one rfl ?_
    refine kX_if (fun q => ?_) (fun q => ?_)
    · have q := qge q i S
      rw [isB_T (fun s hs => i2 s (by omega))]
      repeat refine kX_one rfl ?_
      refine kX_ret (i := .ireturn) (len := 1) rfl (Or.inr rfl) rfl (⟨rfl, rfl⟩)
    · have q := qgeF q i S
      iterate 4 (refine kX_one rfl ?_)
      refine kX_cal (mf_hasDoneAll L xs d σ n R S A M base i g0 hRo hS4 hSr q hA hM hbm) rfl (Or.inr rfl) rfl rfl rfl (fun r1 σ1 q1 => ?_)
      obtain ⟨rfl, rfl⟩ := q1
      by_cases hh : cHd σ A base i
      · rw [isB_T hh]
        iterate 3 (refine kX_one rfl ?_)
        have := ih (i + 1) ⟨by omega, fun s hs => by
          by_cases e : s = i
          · subst e
            exact hh
          · exact i2 s (by omega)⟩ (by omega)
        rw [← nI_1] at this
        exact kX_lv _ rfl rfl rfl this
      · rw [isB_F hh, isB_F (fun z => hh (z i q))]
        repeat refine kX_one rfl ?_
        refine kX_ret (i := .ireturn) (len := 1) rfl (Or.inr rfl) rfl (⟨rfl, rfl⟩)
  unfold kXM
  iterate 2 (refine kX_one rfl ?_)
  exact kX_lv _ rfl rfl rfl (loop 0 ⟨Nat.zero_le _, fun s hs => absurd hs (Nat.not_lt_zero s)⟩)
set_option maxRecDepth 100000 in
set_option maxHeartbeats 4000000 in
theorem mf_hasSecrets (L : Nat) (xs : Nat → Int32) (d : Nat) (σ : kS) (C : Nat) (hC : cCl σ C) : kXM kT L xs (d + 1) 23 [.ref 13] σ (fun q σ' => q = some (.int (isB (∃ c, c < C ∧ σ (163 + 3 * c) 0 ≠ 0))) ∧ σ = σ') := by
  obtain ⟨hC6, hCc, -⟩ := hC
  have loop : ∀ q : Nat, (q ≤ C ∧ ∀ c, c < q → σ (163 + 3 * c) 0 = 0) → kX kT L xs (d + 1) 23 2 [(1, .int (nI q)), (0, .ref 13)] [] σ (fun q σ' => q = some (.int (isB (∃ c, c < C ∧ σ (163 + 3 * c) 0 ≠ 0))) ∧ σ = σ') := by
    refine kX_while (fun q => [(1, .int (nI q)), (0, .ref 13)]) (fun _ => σ) _ (fun q => C - q) ?_
    intro i ⟨i1, i2⟩ ih
    iterate 3 (refine kX_one rfl ?_)
    refine kX_top (hCc) ?_
    repeat refine kX_one rfl ?_
    refine kX_if (fun q => ?_) (fun q => ?_)
    · have q := qge q i C
      rw [isB_F (fun ⟨c, c1, c2⟩ => c2 (i2 c (by omega)))]
      repeat refine kX_one rfl ?_
      refine kX_ret (i := .ireturn) (len := 1) rfl (Or.inr rfl) rfl (⟨rfl, rfl⟩)
    · have q := qgeF q i C
      have hi6 : i < 6 := by omega
      iterate 3 (refine kX_one rfl ?_)
      refine kX_aaldN rfl (rfl) (by decide) (by decide) (by decide) (i) (by first | rfl | decide) (hi6) (cl_at hi6) ?_
      refine kX_getN rfl rfl (kT_cl hi6) rfl ?_
      repeat refine kX_one rfl ?_
      refine kX_if (fun q2 => ?_) (fun q2 => ?_)
      · have q2 := qeq q2
        iterate 2 (refine kX_one rfl ?_)
        have := ih (i + 1) ⟨by omega, fun c hc => by
          by_cases e : c = i
          · subst e
            exact q2
          · exact i2 c (by omega)⟩ (by omega)
        rw [← nI_1] at this
        exact kX_lv _ rfl rfl rfl this
      · have q2 := qeqF q2
        rw [isB_T ⟨i, q, q2⟩]
        repeat refine kX_one rfl ?_
        refine kX_ret (i := .ireturn) (len := 1) rfl (Or.inr rfl) rfl (⟨rfl, rfl⟩)
  unfold kXM
  iterate 2 (refine kX_one rfl ?_)
  exact kX_lv _ rfl rfl rfl (loop 0 ⟨Nat.zero_le _, fun c hc => absurd hc (Nat.not_lt_zero c)⟩)
set_option maxRecDepth 100000 in
set_option maxHeartbeats 4000000 in
theorem mf_tracePath (L : Nat) (xs : Nat → Int32) (d : Nat) (τ : kS) (N l D : Nat) (hN : N ≤ 600) (hl : l < N) (hp : ∀ i, 0 < i → i < N → ∃ j, j < i ∧ τ 198 i = nI j) (hD : D ≤ 24) (hD1 : ∀ j, j < D → 0 < tpI (τ 198) l j) (hD2 : tpI (τ 198) l D = 0) : kXM kT L xs (d + 1) 85 [.ref 195, .int (nI l)] τ (fun r ω => r = none ∧ (∀ c, c ≠ 195 → c ≠ 203 → ω c = τ c) ∧ (∀ j, j ≠ 9 → ω 195 j = τ 195 j) ∧ ω 195 9 = nI D ∧ ∀ k, k < D → ω 203 k = τ 199 (tpI (τ 198) l (D - 1 - k))) := by
  have hlt : ∀ j, j ≤ D → tpI (τ 198) l j < N := by
    intro j
    induction j with
    | zero => intro _; exact hl
    | succ j ih =>
      intro hj
      obtain ⟨j', y1, y2⟩ := hp _ (hD1 j (by omega)) (ih (by omega))
      have := ih (by omega)
      show fN (τ 198 (tpI (τ 198) l j)) < N
      rw [y2, fN_nI (by omega)]
      omega
  have k30 : ∀ lv, nk lv = true → ([(0, .ref 195), (1, .int (nI l)), (2, .int (nI D))] : jL).map (fun q => jl lv q.1) = ([(0, .ref 195), (1, .int (nI l)), (2, Value.int (nI D))] : jL).map (fun q => some q.2) → kX kT L xs (d + 1) 85 30 lv [] τ (fun r ω => r = none ∧ (∀ c, c ≠ 195 → c ≠ 203 → ω c = τ c) ∧ (∀ j, j ≠ 9 → ω 195 j = τ 195 j) ∧ ω 195 9 = nI D ∧ ∀ k, k < D → ω 203 k = τ 199 (tpI (τ 198) l (D - 1 - k))) := by
    intro lv hk hlv
    refine kX_lv _ hk rfl hlv ?_
    have loop : ∀ q : Nat × (Nat → Int32), (q.1 ≤ D ∧ ∀ j, q.1 ≤ j → j < D → q.2 j = τ 199 (tpI (τ 198) l (D - 1 - j))) → kX kT L xs (d + 1) 85 42 [(4, .int (pv q.1)), (3, .int (nI (tpI (τ 198) l (D - q.1)))), (0, .ref 195)] [] (va_up (va_up τ 195 (upd (τ 195) 9 (nI D))) 203 q.2) (fun r ω => r = none ∧ (∀ c, c ≠ 195 → c ≠ 203 → ω c = τ c) ∧ (∀ j, j ≠ 9 → ω 195 j = τ 195 j) ∧ ω 195 9 = nI D ∧ ∀ k, k < D → ω 203 k = τ 199 (tpI (τ 198) l (D - 1 - k))) := by
      refine kX_while (fun q : Nat × (Nat → Int32) => [(4, .int (pv q.1)), (3, .int (nI (tpI (τ 198) l (D - q.1)))), (0, .ref 195)]) (fun q => va_up (va_up τ 195 (upd (τ 195) 9 (nI D))) 203 q.2) _ (fun q => q.1) ?_
      rintro ⟨q, A⟩ ⟨j1, j2⟩ ih
      dsimp only at j1 j2 ih ⊢
      cases q with
      | zero =>
        show kX kT L xs (d + 1) 85 42 [(4, .int (-1)), (3, .int (nI (tpI (τ 198) l (D - 0)))), (0, .ref 195)] [] _ _
        iterate 2 (refine kX_one rfl ?_)
        refine kX_ret (i := .return_) (len := 1) rfl (Or.inr rfl) rfl (⟨rfl, fun c c1 c2 => by rw [up_ne c2, up_ne c1], fun j hj => pk_un hj, rfl, fun k hk => j2 k (Nat.zero_le _) hk⟩)
      | succ k =>
        show kX kT L xs (d + 1) 85 42 [(4, .int (nI k)), (3, .int (nI (tpI (τ 198) l (D - (k + 1))))), (0, .ref 195)] [] _ _
        have s1 := hD1 (D - (k + 1)) (by omega)
        have s2 := hlt (D - (k + 1)) (by omega)
        have hnx : tpI (τ 198) l (D - k) = fN (τ 198 (tpI (τ 198) l (D - (k + 1)))) := by
          rw [show D - k = D - (k + 1) + 1 by omega]
          rfl
        have e1 : D - 1 - k = D - (k + 1) := by omega
        have hmv : τ 199 (tpI (τ 198) l (D - 1 - k)) = τ 199 (tpI (τ 198) l (D - (k + 1))) := by rw [e1]
        generalize tpI (τ 198) l (D - (k + 1)) = s at *
        obtain ⟨j, y1, y2⟩ := hp s s1 s2
        have hj : tpI (τ 198) l (D - k) = j := by
          rw [hnx, y2]
          exact fN_nI (by omega)
        repeat refine kX_one rfl ?_
        refine kX_ifF (decide_eq_false (nI_pos (by omega))) ?_
        iterate 7 (refine kX_one rfl ?_)
        refine kX_ialdN rfl rfl (by decide) (s) (by first | rfl | decide) (by omega) ?_
        refine kX_iastN rfl rfl (by decide) (k) (by first | rfl | decide) (by omega) ?_
        iterate 4 (refine kX_one rfl ?_)
        refine kX_ialdV rfl rfl (by decide) (s) (by first | rfl | decide) (by omega) (y2) ?_
        iterate 3 (refine kX_one rfl ?_)
        have := ih (k, upd A k (τ 199 s)) ⟨by simp only; omega, fun j' a b => by
          simp only
          by_cases e : j' = k
          · subst e
            rw [pk_us, hmv]
          · rw [pk_un e]
            exact j2 j' (by simp only at a; omega) b⟩ (by simp only; omega)
        dsimp only at this
        rw [pv_dec, hj] at this
        refine kX_to _ _ rfl rfl rfl ?_ this
        funext c; first
          | ((repeat (refine va_case ?_ ?_; (· (intro h; first | (subst h; rfl) | (unfold va_up; repeat' split; (all_goals first | rfl | omega | (subst_vars; rfl) | (funext j; unfold upd; repeat' split; all_goals first | rfl | omega | (subst_vars; rfl)))))); intro h)); (repeat (refine va_case2 ?_ ?_; (· (intro h; first | exact absurd h (by assumption) | (subst h; rfl) | (subst h; funext j; unfold upd; repeat' split; (all_goals first | rfl | omega | (subst_vars; rfl))))); intro h)); rfl)
          | (unfold va_up; repeat' split
             all_goals first | rfl | omega | (subst_vars; rfl) | (funext j; unfold upd; repeat' split; all_goals first | rfl | omega | (subst_vars; rfl)))
    iterate 8 (refine kX_one rfl ?_)
    refine kX_top (y := pv D) (pv_sub D) ?_
    iterate 1 (refine kX_one rfl ?_)
    have := loop (D, τ 203) ⟨Nat.le_refl _, fun j a b => by simp only at a; omega⟩
    dsimp only at this
    rw [Nat.sub_self] at this
    refine kX_to _ _ rfl rfl rfl ?_ this
    funext c; first
      | ((repeat (refine va_case ?_ ?_; (· (intro h; first | (subst h; rfl) | (unfold va_up; repeat' split; (all_goals first | rfl | omega | (subst_vars; rfl) | (funext j; unfold upd; repeat' split; all_goals first | rfl | omega | (subst_vars; rfl)))))); intro h)); (repeat (refine va_case2 ?_ ?_; (· (intro h; first | exact absurd h (by assumption) | (subst h; rfl) | (subst h; funext j; unfold upd; repeat' split; (all_goals first | rfl | omega | (subst_vars; rfl))))); intro h)); rfl)
      | (unfold va_up; repeat' split
         all_goals first | rfl | omega | (subst_vars; rfl) | (funext j; unfold upd; repeat' split; all_goals first | rfl | omega | (subst_vars; rfl)))
  have loop : ∀ q : Nat, q ≤ D → kX kT L xs (d + 1) 85 4 [(2, .int (nI q)), (3, .int (nI (tpI (τ 198) l q))), (0, .ref 195), (1, .int (nI l))] [] τ (fun r ω => r = none ∧ (∀ c, c ≠ 195 → c ≠ 203 → ω c = τ c) ∧ (∀ j, j ≠ 9 → ω 195 j = τ 195 j) ∧ ω 195 9 = nI D ∧ ∀ k, k < D → ω 203 k = τ 199 (tpI (τ 198) l (D - 1 - k))) := by
    refine kX_while (fun q => [(2, .int (nI q)), (3, .int (nI (tpI (τ 198) l q))), (0, .ref 195), (1, .int (nI l))]) (fun _ => τ) _ (fun q => 24 - q) ?_
    intro i i1 ih
    have i2 := hlt i i1
    repeat refine kX_one rfl ?_
    refine kX_if (fun q => ?_) (fun q => ?_)
    · have q := qle q (tpI (τ 198) l i) 0
      have hiD : i = D := by
        refine Classical.byContradiction (fun e => ?_)
        have := hD1 i (by omega)
        omega
      subst hiD
      exact k30 _ rfl rfl
    · have q := qleF q (tpI (τ 198) l i) 0
      have hiD : i < D := by
        refine Classical.byContradiction (fun e => ?_)
        have : i = D := by omega
        rw [this, hD2] at q
        omega
      repeat refine kX_one rfl ?_
      refine kX_if (fun q2 => ?_) (fun q2 => ?_)
      · have q2 := qge q2 i 24
        omega
      · obtain ⟨j, y1, y2⟩ := hp _ q i2
        have hj : tpI (τ 198) l (i + 1) = j := by
          show fN (τ 198 (tpI (τ 198) l i)) = j
          rw [y2]
          exact fN_nI (by omega)
        iterate 5 (refine kX_one rfl ?_)
        refine kX_ialdV rfl rfl (by decide) (tpI (τ 198) l i) (by first | rfl | decide) (by omega) (y2) ?_
        iterate 2 (refine kX_one rfl ?_)
        have := ih (i + 1) hiD (by omega)
        rw [hj, ← nI_1] at this
        exact kX_lv _ rfl rfl rfl this
  unfold kXM
  iterate 4 (refine kX_one rfl ?_)
  exact kX_lv _ rfl rfl rfl (loop 0 (Nat.zero_le _))
end
section
/-! alike: reach -/
/-- the first that breaks: 1 + c, or 0 -/
noncomputable def fsB (P : Nat → Prop) : Nat → Nat → Int32
  | 0, _ => 0
  | m + 1, c => cit (P c) (nI (1 + c)) (fsB P m (c + 1))
theorem fsB_no {P : Nat → Prop} : ∀ m i, (∀ c, i ≤ c → c < i + m → ¬ P c) → fsB P m i = 0
  | 0, _, _ => rfl
  | m + 1, i, h => by
    have e : fsB P (m + 1) i = cit (P i) (nI (1 + i)) (fsB P m (i + 1)) := rfl
    rw [e, cit_F (h i (Nat.le_refl _) (by omega)), fsB_no m (i + 1) (fun c c1 c2 => h c (by omega) (by omega))]
theorem fsB_at {P : Nat → Prop} {j : Nat} (hj : P j) : ∀ m i, i ≤ j → j < i + m → (∀ c, i ≤ c → c < j → ¬ P c) → fsB P m i = nI (1 + j)
  | 0, i, h1, h2, _ => by omega
  | m + 1, i, h1, h2, h => by
    have e : fsB P (m + 1) i = cit (P i) (nI (1 + i)) (fsB P m (i + 1)) := rfl
    by_cases q : i = j
    · subst q
      rw [e, cit_T hj]
    · rw [e, cit_F (h i (Nat.le_refl _) (by omega)), fsB_at hj m (i + 1) (by omega) (by omega) (fun c c1 c2 => h c (by omega) c2)]
theorem fsB_congr {P Q : Nat → Prop} : ∀ m i, (∀ c, i ≤ c → c < i + m → (P c ↔ Q c)) → fsB P m i = fsB Q m i
  | 0, _, _ => rfl
  | m + 1, i, h => by
    unfold fsB
    rw [cit_iff (h i (Nat.le_refl _) (by omega)), fsB_congr m (i + 1) (fun c c1 c2 => h c (by omega) (by omega))]
/-- what reach leaves alone -/
def reF (τ ω : kS) (K : Nat) : Prop := ∀ c, c < 195 ∨ c = 202 ∨ 204 ≤ c → c ≠ K + 6 → ω c = τ c
theorem cBk_c {τ ω : kS} {n R S C K st c : Nat} {l : rwT} (hB : cB τ n R S C) (hK : isK K st) (h : reF τ ω K) (hc : c < C) : cBk ω 202 0 c n S l ↔ cBk τ 202 0 c n S l := by
  have hb := isK_b hK
  have hC6 := hB.2.2.1
  have hR4 := hB.1.1
  have e : ∀ c, c < 181 → ω c = τ c := fun c hc => h c (by omega) (by omega)
  have e2 : ω 202 = τ 202 := h 202 (by omega) (by rcases hK with z | z | z <;> omega)
  have e3 : ∀ c, 232 ≤ c → ω c = τ c := fun c hc => h c (by omega) (by omega)
  unfold cBk
  rw [e (163 + 3 * c) (by omega)]
  refine or_congr (and_congr_right (fun _ => exists_congr (fun s => and_congr_right (fun hs => ?_)))) (and_congr_right (fun _ => not_congr (cPn_congr (fun s hs => ?_) (fun s p hs hp _ => ?_))))
  · unfold cLs kMk kIn kTv mA
    rw [e (163 + 3 * c) (by omega), e 15 (by decide), e 16 (by decide), e2, e 2 (by decide), e 3 (by decide), e 4 (by decide), e3 233 (by decide), e3 238 (by decide)]
  · obtain ⟨r, r1, r2⟩ := hB.2.1.2.2 s hs
    unfold cWn cHd
    rw [e (163 + 3 * c) (by omega), e 15 (by decide), e 16 (by decide), e2, r2, fN_nI (by omega), e (23 + 35 * r) (by omega)]
  · unfold cFt
    rw [e (163 + 3 * c) (by omega), e (164 + 3 * c) (by omega), e (165 + 3 * c) (by omega), e 15 (by decide), e2]
theorem iE_far {σ τ : kS} {K st n u m : Nat} {l : rwT} (hK : 204 ≤ K) (hl : ∀ c, c < 195 ∨ 204 ≤ c → τ c = σ c) (h0 : iE σ K st n u m l) : iE τ K st n u m l := by
  unfold iE aT1 kTb kAG cpt kMs kRw kMk kIn kTv mA kDp kQf at h0 ⊢
  simp only [hl 1 (by omega), hl 2 (by decide), hl 3 (by decide), hl 4 (by decide), hl 5 (by decide), hl 8 (by decide), hl 9 (by decide), hl 10 (by decide), hl 11 (by decide), hl 12 (by decide), hl 6 (by decide), hl 233 (by decide), hl 234 (by decide), hl 235 (by decide), hl 236 (by decide), hl 237 (by decide), hl 238 (by decide), hl 239 (by decide), hl 240 (by decide), hl 241 (by decide), hl K (by omega), hl (K + 1) (by omega), hl (K + 2) (by omega), hl (K + 3) (by omega), hl (K + 4) (by omega), hl (K + 5) (by omega), hl (K + 6) (by omega), hl (K + 7) (by omega)]
  exact h0
/-- the draft is added -/
def reA (τ ω : kS) (wd N : Nat) (f s : Int32) : Prop := ω 197 = va_cpy (τ 202) (τ 197) 0 (28 * N) 28 ∧ ω 198 = upd (τ 198) N f ∧ ω 199 = upd (τ 199) N s ∧ sWi ω wd (N + 1)
set_option maxRecDepth 100000 in
set_option maxHeartbeats 4000000 in
theorem mf_reach (L : Nat) (xs : Nat → Int32) (d : Nat) (τ : kS) (n R S C N K st u m D fin : Nat) (l : rwT) (f s : Int32) (hB : cB τ n R S C) (hK : (K = 204 ∧ st = 776) ∨ (K = 213 ∧ st = 1352)) (hE : iE τ K st n u m l) (hwd : τ 195 6 = nI (7 * S)) (hW : sWi τ (7 * S) N) (han : τ 195 12 = 0) (hfi : τ 195 11 = nI fin) (hV : ∀ s k, s < S → k < 6 → τ 202 (0 + 7 * s + 1 + k) = -1 ∨ ∃ z, z < n ∧ τ 202 (0 + 7 * s + 1 + k) = nI z ∧ kGd τ z)
    (hp : ∀ i, 0 < i → i < N + 1 → ∃ j, j < i ∧ upd (τ 198) N f i = nI j) (hD : D ≤ 24) (hD1 : ∀ j, j < D → 0 < tpI (upd (τ 198) N f) N j) (hD2 : tpI (upd (τ 198) N f) N D = 0) : kXM kT L xs (d + 55) 84 [.ref 195, .int f, .int s, .ref K] τ (fun r ω => r = none ∧ ((N = 600 ∧ ω = va_up τ 195 (upd (τ 195) 12 (-7))) ∨ (N < 600 ∧ reF τ ω K ∧ iE ω K st n u m l ∧ reA τ ω (7 * S) N f s ∧ (∀ j, j ≠ 12 → j ≠ 11 → j ≠ 9 → ω 195 j = τ 195 j) ∧ ω 195 11 = nI (fin + cit (∀ s, s < S → cHd τ 202 0 s) 1 0) ∧ ω 195 12 = fsB (fun c => cBk τ 202 0 c n S l) C 0 ∧ (ω 195 12 = 0 → ω 195 9 = τ 195 9) ∧ (ω 195 12 ≠ 0 → ω 195 9 = nI D ∧ ∀ k, k < D → ω 203 k = upd (τ 199) N s (tpI (upd (τ 198) N f) N (D - 1 - k)))))) := by
  have hK' : isK K st := Or.inr hK
  have hKb := isK_b hK'
  have hK6 : K + 6 = 210 ∨ K + 6 = 219 := by rcases hK with z | z <;> omega
  have hC6 := hB.2.2.1
  have hS4 := hB.2.1.1
  have hN6 := hW.1
  unfold kXM
  iterate 3 (refine kX_one rfl ?_)
  refine kX_top (hW.2.1) ?_
  repeat refine kX_one rfl ?_
  refine kX_if (fun q => ?_) (fun q => ?_)
  · have q := qlt q N 600
    iterate 6 (refine kX_one rfl ?_)
    refine kX_top (hwd) ?_
    iterate 2 (refine kX_one rfl ?_)
    refine kX_cal (mf_stAdd L xs (d + 52) τ f s (7 * S) N (by omega) q hW) rfl (Or.inr rfl) rfl rfl rfl (fun r1 τ1 q1 => ?_)
    obtain ⟨rfl, hA, hW1⟩ := q1
    have e1 : ∀ c, c < 196 ∨ 202 ≤ c → τ1 c = τ c := hA.1
    have hB1 : cB τ1 n R S C := cB_eq (fun c c1 c2 => e1 c (by omega)) hB
    have hcd : ∀ s, s < S → (cHd τ1 202 0 s ↔ cHd τ 202 0 s) := fun s hs => by
      obtain ⟨r, r1, r2⟩ := hB.2.1.2.2 s hs
      have := hB.1.1
      unfold cHd
      rw [e1 15 (by decide), e1 202 (by decide), r2, fN_nI (by omega), e1 (23 + 35 * r) (by omega)]
    have hall : (∀ s, s < S → cHd τ1 202 0 s) ↔ (∀ s, s < S → cHd τ 202 0 s) := ⟨fun z s hs => (hcd s hs).mp (z s hs), fun z s hs => (hcd s hs).mpr (z s hs)⟩
    have go : ∀ π0 : kS, (∀ c, c ≠ 195 → π0 c = τ1 c) → (∀ j, j ≠ 11 → π0 195 j = τ 195 j) → π0 195 11 = nI (fin + cit (∀ s, s < S → cHd τ 202 0 s) 1 0) → ∀ lv, nk lv = true → ([(0, .ref 195), (3, .ref K)] : jL).map (fun q => jl lv q.1) = ([(0, Value.ref 195), (3, .ref K)] : jL).map (fun q => some q.2) → kX kT L xs (d + 55) 84 62 lv [] π0 (fun r ω => r = none ∧ ((N = 600 ∧ ω = va_up τ 195 (upd (τ 195) 12 (-7))) ∨ (N < 600 ∧ reF τ ω K ∧ iE ω K st n u m l ∧ reA τ ω (7 * S) N f s ∧ (∀ j, j ≠ 12 → j ≠ 11 → j ≠ 9 → ω 195 j = τ 195 j) ∧ ω 195 11 = nI (fin + cit (∀ s, s < S → cHd τ 202 0 s) 1 0) ∧ ω 195 12 = fsB (fun c => cBk τ 202 0 c n S l) C 0 ∧ (ω 195 12 = 0 → ω 195 9 = τ 195 9) ∧ (ω 195 12 ≠ 0 → ω 195 9 = nI D ∧ ∀ k, k < D → ω 203 k = upd (τ 199) N s (tpI (upd (τ 198) N f) N (D - 1 - k)))))) := by
      intro π0 g1 g2 g3 lv hk hlv
      refine kX_lv _ hk rfl hlv ?_
      have eπ : ∀ c, c < 195 ∨ 202 ≤ c → π0 c = τ c := fun c hc => (g1 c (by omega)).trans (e1 c (by omega))
      have hE0 : iE π0 K st n u m l := iE_far (by omega) (fun c hc => eπ c (by omega)) hE
      have hWc : ∀ c, 196 ≤ c → c < 202 → π0 c = τ1 c := fun c c1 c2 => g1 c (by omega)
      have hre : ∀ ω : kS, (∀ c, c ≠ 195 → c ≠ 203 → c ≠ K + 6 → ω c = π0 c) → reF τ ω K ∧ reA τ ω (7 * S) N f s := fun ω ho => by
        refine ⟨fun c c1 c2 => (ho c (by omega) (by omega) c2).trans (eπ c (by omega)), ?_, ?_, ?_, ?_⟩
        · rw [ho _ (by decide) (by decide) (by omega), hWc _ (by decide) (by decide)]
          exact hA.2.1
        · rw [ho _ (by decide) (by decide) (by omega), hWc _ (by decide) (by decide)]
          exact hA.2.2.1
        · rw [ho _ (by decide) (by decide) (by omega), hWc _ (by decide) (by decide)]
          exact hA.2.2.2.1
        · unfold sWi at hW1 ⊢
          rw [ho 196 (by decide) (by decide) (by omega), ho 197 (by decide) (by decide) (by omega), ho 201 (by decide) (by decide) (by omega), ho 200 (by decide) (by decide) (by omega), hWc 196 (by decide) (by decide), hWc 197 (by decide) (by decide), hWc 201 (by decide) (by decide), hWc 200 (by decide) (by decide)]
          exact hW1
      have loop : ∀ q : Nat × (Nat → Int32), (q.1 ≤ C ∧ iE (va_up π0 (K + 6) q.2) K st n u m l ∧ ∀ c, c < q.1 → ¬ cBk τ 202 0 c n S l) → kX kT L xs (d + 55) 84 65 [(4, .int (nI q.1)), (0, .ref 195), (3, .ref K)] [] (va_up π0 (K + 6) q.2) (fun r ω => r = none ∧ ((N = 600 ∧ ω = va_up τ 195 (upd (τ 195) 12 (-7))) ∨ (N < 600 ∧ reF τ ω K ∧ iE ω K st n u m l ∧ reA τ ω (7 * S) N f s ∧ (∀ j, j ≠ 12 → j ≠ 11 → j ≠ 9 → ω 195 j = τ 195 j) ∧ ω 195 11 = nI (fin + cit (∀ s, s < S → cHd τ 202 0 s) 1 0) ∧ ω 195 12 = fsB (fun c => cBk τ 202 0 c n S l) C 0 ∧ (ω 195 12 = 0 → ω 195 9 = τ 195 9) ∧ (ω 195 12 ≠ 0 → ω 195 9 = nI D ∧ ∀ k, k < D → ω 203 k = upd (τ 199) N s (tpI (upd (τ 198) N f) N (D - 1 - k)))))) := by
        refine kX_while (fun q : Nat × (Nat → Int32) => [(4, .int (nI q.1)), (0, .ref 195), (3, .ref K)]) (fun q => va_up π0 (K + 6) q.2) _ (fun q => C - q.1) ?_
        rintro ⟨i, M⟩ ⟨i1, i2, i3⟩ ih
        dsimp only at i1 i2 i3 ih ⊢
        have hM195 : va_up π0 (K + 6) M 195 = π0 195 := up_ne (by omega)
        obtain ⟨hreF, hreA⟩ := hre (va_up π0 (K + 6) M) (fun c _ _ c3 => up_ne c3)
        have hBω : cB (va_up π0 (K + 6) M) n R S C := cB_eq (fun c c1 c2 => hreF c (by omega) (by omega)) hB
        have han0 : va_up π0 (K + 6) M 195 12 = 0 := by rw [hM195, g2 _ (by decide)]; exact han
        iterate 4 (refine kX_one rfl ?_)
        refine kX_top (y := nI C) hBω.2.2.2.1 ?_
        repeat refine kX_one rfl ?_
        refine kX_if (fun q => ?_) (fun q => ?_)
        · have q := qge q i C
          have hfs : fsB (fun c => cBk τ 202 0 c n S l) C 0 = 0 := fsB_no C 0 (fun c _ c2 => i3 c (by omega))
          refine kX_ret (i := .return_) (len := 1) rfl (Or.inr rfl) rfl ⟨rfl, Or.inr ⟨by assumption, hreF, i2, hreA, fun j j1 j2 _ => by rw [hM195]; exact g2 j j2, by rw [hM195]; exact g3, by rw [han0, hfs], fun _ => by rw [hM195]; exact g2 _ (by decide), fun z => absurd han0 z⟩⟩
        · have q := qgeF q i C
          iterate 2 (refine kX_one rfl ?_)
          refine kX_top (y := 0) han0 ?_
          iterate 1 (refine kX_one rfl ?_)
          have hV1 : ∀ s k, s < S → k < 6 → va_up π0 (K + 6) M 202 (0 + 7 * s + 1 + k) = -1 ∨ ∃ z, z < n ∧ va_up π0 (K + 6) M 202 (0 + 7 * s + 1 + k) = nI z ∧ kGd (va_up π0 (K + 6) M) z := by
            unfold kGd
            rw [hreF 202 (by omega) (by omega), hreF 2 (by decide) (by omega), hreF 3 (by decide) (by omega), hreF 4 (by decide) (by omega)]
            exact hV
          iterate 7 (refine kX_one rfl ?_)
          refine kX_cal (mf_breaks L xs d (va_up π0 (K + 6) M) n R S C 202 28 0 i K st u m l (fun _ => 0) hBω q rfl (by decide) (by decide) (by omega) i2 hV1) rfl (Or.inr rfl) rfl rfl rfl (fun r1 ρ q1 => ?_)
          obtain ⟨rfl, M', rfl, hE3⟩ := q1
          rw [kup_up] at hE3 ⊢
          rw [isB_iff (cBk_c hB hK' hreF q)]
          by_cases hbk : cBk τ 202 0 i n S l
          · rw [isB_T hbk]
            have hfs : fsB (fun c => cBk τ 202 0 c n S l) C 0 = nI (1 + i) := fsB_at hbk C 0 (Nat.zero_le _) (by omega) (fun c _ c2 => i3 c c2)
            have hρ195 : va_up π0 (K + 6) M' 195 = π0 195 := up_ne (by omega)
            have hρo : ∀ c, c ≠ K + 6 → va_up π0 (K + 6) M' c = π0 c := fun c hc => up_ne hc
            generalize va_up π0 (K + 6) M' = ρ at hE3 hρ195 hρo ⊢
            iterate 6 (refine kX_one rfl ?_)
            refine kX_st (va_up ρ 195 (upd (ρ 195) 12 (nI (1 + i)))) (by rw [← nI_add]; rfl) ?_
            have x195 : va_up ρ 195 (upd (ρ 195) 12 (nI (1 + i))) 195 = upd (π0 195) 12 (nI (1 + i)) := by rw [up_eq, hρ195]
            have xo : ∀ c, c ≠ 195 → c ≠ K + 6 → va_up ρ 195 (upd (ρ 195) 12 (nI (1 + i))) c = π0 c := fun c c1 c2 => (up_ne c1).trans (hρo c c2)
            have xE : iE (va_up ρ 195 (upd (ρ 195) 12 (nI (1 + i)))) K st n u m l := iE_far (by omega) (fun c hc => up_ne (by omega)) hE3
            generalize va_up ρ 195 (upd (ρ 195) 12 (nI (1 + i))) = κ at x195 xo xE ⊢
            have ePar : κ 198 = upd (τ 198) N f := by
              rw [xo _ (by decide) (by omega), hWc _ (by decide) (by decide)]
              exact hA.2.2.1
            have eMov : κ 199 = upd (τ 199) N s := by
              rw [xo _ (by decide) (by omega), hWc _ (by decide) (by decide)]
              exact hA.2.2.2.1
            have eCnt : κ 196 5 = nI (N + 1) := by
              rw [xo 196 (by decide) (by omega), hWc 196 (by decide) (by decide)]
              exact hW1.2.1
            iterate 4 (refine kX_one rfl ?_)
            refine kX_top (eCnt) ?_
            iterate 2 (refine kX_one rfl ?_)
            refine kX_top (y := nI N) (nI_pred N) ?_
            refine kX_cal (mf_tracePath L xs (d + 53) κ (N + 1) N D (by omega) (by omega) (by rw [ePar]; exact hp) hD (by rw [ePar]; exact hD1) (by rw [ePar]; exact hD2)) rfl (Or.inr rfl) rfl rfl rfl (fun r1 ω q1 => ?_)
            obtain ⟨rfl, t1, t2, t3, t4⟩ := q1
            rw [ePar, eMov] at t4
            obtain ⟨yF, yA⟩ := hre ω (fun c c1 c2 c3 => (t1 c c1 c2).trans (xo c c1 c3))
            have yE : iE ω K st n u m l := iE_far (by omega) (fun c hc => t1 c (by omega) (by omega)) xE
            have yan : ω 195 12 = nI (1 + i) := by rw [t2 _ (by decide), x195, pk_us]
            have yne : ω 195 12 ≠ 0 := by
              rw [yan]
              exact nI_ne0 (by omega) (by omega)
            have yfi : ω 195 11 = nI (fin + cit (∀ s, s < S → cHd τ 202 0 s) 1 0) := by
              rw [t2 _ (by decide), x195, pk_un (by decide)]
              exact g3
            have yo : ∀ j, j ≠ 12 → j ≠ 11 → j ≠ 9 → ω 195 j = τ 195 j := fun j j1 j2 j3 => by
              rw [t2 j j3, x195, pk_un j1]
              exact g2 j j2
            have yC : ω 13 8 = nI C := by
              rw [yF 13 (by decide) (by omega)]
              exact hB.2.2.2.1
            iterate 6 (refine kX_one rfl ?_)
            refine kX_top (y := nI C) yC ?_
            repeat refine kX_one rfl ?_
            refine kX_if (fun q6 => ?_) (fun q6 => ?_)
            · refine kX_ret (i := .return_) (len := 1) rfl (Or.inr rfl) rfl ⟨rfl, Or.inr ⟨by assumption, yF, yE, yA, yo, yfi, by rw [yan, hfs], fun z => absurd z yne, fun _ => ⟨t3, t4⟩⟩⟩
            · repeat refine kX_one rfl ?_
              refine kX_ifT (decide_eq_true yne) ?_
              refine kX_ret (i := .return_) (len := 1) rfl (Or.inr rfl) rfl ⟨rfl, Or.inr ⟨by assumption, yF, yE, yA, yo, yfi, by rw [yan, hfs], fun z => absurd z yne, fun _ => ⟨t3, t4⟩⟩⟩
          · rw [isB_F hbk]
            iterate 3 (refine kX_one rfl ?_)
            have := ih (i + 1, M') ⟨q, hE3, fun c hc => by
              by_cases e : c = i
              · subst e
                exact hbk
              · exact i3 c (by simp only at hc; omega)⟩ (by simp only; omega)
            dsimp only at this
            rw [← nI_1] at this
            exact kX_lv _ rfl rfl rfl this
      iterate 2 (refine kX_one rfl ?_)
      have := loop (0, π0 (K + 6)) ⟨Nat.zero_le _, by simp only; rw [kup_self]; exact hE0, fun c hc => absurd hc (Nat.not_lt_zero c)⟩
      dsimp only at this
      rw [kup_self] at this
      exact kX_lv _ rfl rfl rfl this
    iterate 5 (refine kX_one rfl ?_)
    refine kX_cal (mf_allDone L xs (d + 51) τ1 n R S C 202 28 0 (fun _ => 0) hB1 rfl (by decide) (by decide)) rfl (Or.inr rfl) rfl rfl rfl (fun r1 σ1 q1 => ?_)
    obtain ⟨rfl, rfl⟩ := q1
    rw [isB_iff hall]
    by_cases hd : ∀ s, s < S → cHd τ 202 0 s
    · rw [isB_T hd]
      iterate 7 (refine kX_one rfl ?_)
      refine go _ (fun c hc => up_ne hc) (fun j hj => ?_) ?_ _ rfl rfl
      · rw [up_eq, pk_un hj, e1 195 (by decide)]
      · rw [up_eq, pk_us, e1 195 (by decide), hfi, cit_T hd]
        exact nI_1 fin
    · rw [isB_F hd]
      iterate 1 (refine kX_one rfl ?_)
      refine go _ (fun c _ => rfl) (fun j _ => by rw [e1 195 (by decide)]) ?_ _ rfl rfl
      rw [e1 195 (by decide), hfi, cit_F hd, Nat.add_zero]
  · have q := qltF q N 600
    have hN : N = 600 := by omega
    iterate 3 (refine kX_one rfl ?_)
    refine kX_ret (i := .return_) (len := 1) rfl (Or.inr rfl) rfl ⟨rfl, Or.inl ⟨hN, rfl⟩⟩
end
section
/-! alike: the reference's isThere -/
def sm1 (σ : kS) (i s : Nat) : Prop := σ 284 (4 * i + s) = σ 264 s ∧ ∀ k, k < 6 → σ 285 (24 * i + 6 * s + k) = σ 265 (6 * s + k)
/-- the STATE i is the one that stands in doing and value -/
def smS (σ : kS) (S i : Nat) : Prop := ∀ s, s < S → sm1 σ i s
set_option maxRecDepth 100000 in
set_option maxHeartbeats 4000000 in
theorem mf_isThere (L : Nat) (xs : Nat → Int32) (d : Nat) (σ : kS) (S N : Nat) (hS : σ 232 27 = nI S) (hS4 : S ≤ 4) (hN : σ 232 69 = nI N) (hN6 : N ≤ 600) : kXM kT L xs (d + 1) 212 [.ref 232] σ (fun r σ' => r = some (.int (isB (∃ i, i < N ∧ smS σ S i))) ∧ σ = σ') := by
  unfold kXM
  have k127 : ∀ (P : Prop), (P ↔ ∃ i, i < N ∧ smS σ S i) → ∀ lv, nk lv = true → ([(1, Value.int (isB P))] : jL).map (fun q => jl lv q.1) = ([(1, Value.int (isB P))] : jL).map (fun q => some q.2) → kX kT L xs (d + 1) 212 127 lv [] σ (fun r σ' => r = some (.int (isB (∃ i, i < N ∧ smS σ S i))) ∧ σ = σ') := by
    intro P hP lv hk hlv
    refine kX_lv _ hk rfl hlv ?_
    rw [← isB_iff hP]
    repeat refine kX_one rfl ?_
    refine kX_ret (i := .ireturn) (len := 1) rfl (Or.inr rfl) (jend_b rfl (isB_01 P)) (⟨rfl, rfl⟩)
  have loopA : ∀ q : Nat × Prop, (q.1 ≤ N ∧ (q.2 ↔ ∃ j, j < q.1 ∧ smS σ S j)) → kX kT L xs (d + 1) 212 4 [(2, .int (nI q.1)), (1, .int (isB q.2)), (0, .ref 232)] [] σ (fun r σ' => r = some (.int (isB (∃ i, i < N ∧ smS σ S i))) ∧ σ = σ') := by
    refine kX_while (fun q : Nat × Prop => [(2, .int (nI q.1)), (1, .int (isB q.2)), (0, .ref 232)]) (fun _ => σ) (fun q => q.1 ≤ N ∧ (q.2 ↔ ∃ j, j < q.1 ∧ smS σ S j)) (fun q => N - q.1) ?_
    rintro ⟨i, P⟩ ⟨i1, i2⟩ ih
    dsimp only at i1 i2 ih ⊢
    have k121 : i < N → ¬ P → ∀ (P' : Prop), (P' ↔ smS σ S i) → ∀ lv, nk lv = true → ([(2, .int (nI i)), (1, Value.int (isB P')), (0, .ref 232)] : jL).map (fun q => jl lv q.1) = ([(2, .int (nI i)), (1, Value.int (isB P')), (0, .ref 232)] : jL).map (fun q => some q.2) → kX kT L xs (d + 1) 212 121 lv [] σ (fun r σ' => r = some (.int (isB (∃ i, i < N ∧ smS σ S i))) ∧ σ = σ') := by
      intro hiN hnP P' hP' lv hk hlv
      refine kX_lv _ hk rfl hlv ?_
      iterate 2 (refine kX_one rfl ?_)
      have := ih (i + 1, P') ⟨hiN, by
        simp only
        rw [hP']
        refine ⟨fun z => ⟨i, by omega, z⟩, fun ⟨j, j1, j2⟩ => ?_⟩
        by_cases e : j = i
        · exact e ▸ j2
        · exact absurd (i2.mpr ⟨j, by omega, j2⟩) hnP⟩ (by simp only; omega)
      dsimp only at this
      rw [← nI_1] at this
      exact kX_lv _ rfl rfl rfl this
    have loopB : i < N → ¬ P → ∀ q : Nat × Prop, (q.1 ≤ S ∧ (q.2 ↔ ∀ s, s < q.1 → sm1 σ i s)) → kX kT L xs (d + 1) 212 20 [(3, .int (nI q.1)), (2, .int (nI i)), (1, .int (isB q.2)), (0, .ref 232)] [] σ (fun r σ' => r = some (.int (isB (∃ i, i < N ∧ smS σ S i))) ∧ σ = σ') := by
      intro hiN hnP
      refine kX_while (fun q : Nat × Prop => [(3, .int (nI q.1)), (2, .int (nI i)), (1, .int (isB q.2)), (0, .ref 232)]) (fun _ => σ) (fun q => q.1 ≤ S ∧ (q.2 ↔ ∀ s, s < q.1 → sm1 σ i s)) (fun q => S - q.1) ?_
      rintro ⟨s, PB⟩ ⟨j1, j2⟩ ih2
      dsimp only at j1 j2 ih2 ⊢
      have k115 : s < S → ∀ (P' : Prop), (P' ↔ ∀ s', s' < s + 1 → sm1 σ i s') → ∀ lv, nk lv = true → ([(3, .int (nI s)), (2, .int (nI i)), (1, Value.int (isB P')), (0, .ref 232)] : jL).map (fun q => jl lv q.1) = ([(3, .int (nI s)), (2, .int (nI i)), (1, Value.int (isB P')), (0, .ref 232)] : jL).map (fun q => some q.2) → kX kT L xs (d + 1) 212 115 lv [] σ (fun r σ' => r = some (.int (isB (∃ i, i < N ∧ smS σ S i))) ∧ σ = σ') := by
        intro hsS P' hP' lv hk hlv
        refine kX_lv _ hk rfl hlv ?_
        iterate 2 (refine kX_one rfl ?_)
        have := ih2 (s + 1, P') ⟨hsS, hP'⟩ (by simp only; omega)
        dsimp only at this
        rw [← nI_1] at this
        exact kX_lv _ rfl rfl rfl this
      have loopC : s < S → (∀ s', s' < s → sm1 σ i s') → ∀ q : Nat × Prop, (q.1 ≤ 6 ∧ (q.2 ↔ σ 284 (4 * i + s) = σ 264 s ∧ ∀ k, k < q.1 → σ 285 (24 * i + 6 * s + k) = σ 265 (6 * s + k))) → kX kT L xs (d + 1) 212 60 [(4, .int (nI q.1)), (3, .int (nI s)), (2, .int (nI i)), (1, .int (isB q.2)), (0, .ref 232)] [] σ (fun r σ' => r = some (.int (isB (∃ i, i < N ∧ smS σ S i))) ∧ σ = σ') := by
        intro hsS hbe
        refine kX_while (fun q : Nat × Prop => [(4, .int (nI q.1)), (3, .int (nI s)), (2, .int (nI i)), (1, .int (isB q.2)), (0, .ref 232)]) (fun _ => σ) (fun q => q.1 ≤ 6 ∧ (q.2 ↔ σ 284 (4 * i + s) = σ 264 s ∧ ∀ k, k < q.1 → σ 285 (24 * i + 6 * s + k) = σ 265 (6 * s + k))) (fun q => 6 - q.1) ?_
        rintro ⟨k, PC⟩ ⟨l1, l2⟩ ih3
        dsimp only at l1 l2 ih3 ⊢
        have k108 : k < 6 → ∀ (P' : Prop), (P' ↔ σ 284 (4 * i + s) = σ 264 s ∧ ∀ k', k' < k + 1 → σ 285 (24 * i + 6 * s + k') = σ 265 (6 * s + k')) → kX kT L xs (d + 1) 212 108 [(4, .int (nI k)), (3, .int (nI s)), (2, .int (nI i)), (1, .int (isB PC)), (0, .ref 232)] [.int (isB P')] σ (fun r σ' => r = some (.int (isB (∃ i, i < N ∧ smS σ S i))) ∧ σ = σ') := by
          intro hk6 P' hP'
          iterate 3 (refine kX_one rfl ?_)
          have := ih3 (k + 1, P') ⟨hk6, hP'⟩ (by simp only; omega)
          dsimp only at this
          rw [← nI_1] at this
          exact kX_lv _ rfl rfl rfl this
        have hex : (PC ↔ sm1 σ i s) → (PC ↔ ∀ s', s' < s + 1 → sm1 σ i s') := fun hh => by
          rw [hh]
          refine ⟨fun z s' hs' => ?_, fun z => z s (by omega)⟩
          by_cases e : s' = s
          · exact e ▸ z
          · exact hbe s' (by omega)
        repeat refine kX_one rfl ?_
        refine kX_if (fun q => ?_) (fun q => ?_)
        · have q := qge q k 6
          obtain rfl : k = 6 := by omega
          exact k115 hsS PC (hex l2) _ rfl rfl
        · have q := qgeF q k 6
          repeat refine kX_one rfl ?_
          refine kX_if (fun q2 => ?_) (fun q2 => ?_)
          · have q2 : ¬ PC := fun z => isB_ne.mpr z (qeq q2)
            refine k115 hsS PC (hex ⟨fun z => absurd z q2, fun z => absurd (l2.mpr ⟨z.1, fun k' hk' => z.2 k' (by omega)⟩) q2⟩) _ rfl rfl
          · have q2 : PC := isB_ne.mp (qeqF q2)
            have hl := l2.mp q2
            repeat refine kX_one rfl ?_
            refine kX_ialdN rfl rfl (by decide) (24 * i + 6 * s + k) (ix24 i s k) (by omega) ?_
            repeat refine kX_one rfl ?_
            refine kX_ialdN rfl rfl (by decide) (6 * s + k) (ix6 s k) (by omega) ?_
            repeat refine kX_one rfl ?_
            refine kX_if (fun q3 => ?_) (fun q3 => ?_)
            · have q3 := qne q3
              iterate 1 (refine kX_one rfl ?_)
              have := k108 q False ⟨fun z => z.elim, fun z => q3 (z.2 k (by omega))⟩
              rw [isB_F (fun z => z)] at this
              exact this
            · have q3 := qneF q3
              iterate 2 (refine kX_one rfl ?_)
              have := k108 q True ⟨fun _ => ⟨hl.1, fun k' hk' => by
                by_cases e : k' = k
                · exact e ▸ q3
                · exact hl.2 k' (by omega)⟩, fun _ => trivial⟩
              rw [isB_T trivial] at this
              exact this
      have k56 : s < S → (∀ s', s' < s → sm1 σ i s') → ∀ (P' : Prop), (P' ↔ σ 284 (4 * i + s) = σ 264 s) → kX kT L xs (d + 1) 212 56 [(3, .int (nI s)), (2, .int (nI i)), (1, .int (isB PB)), (0, .ref 232)] [.int (isB P')] σ (fun r σ' => r = some (.int (isB (∃ i, i < N ∧ smS σ S i))) ∧ σ = σ') := by
        intro hsS hbe P' hP'
        iterate 3 (refine kX_one rfl ?_)
        exact kX_lv _ rfl rfl rfl (loopC hsS hbe (0, P') ⟨Nat.zero_le _, by simp only; rw [hP']; exact ⟨fun z => ⟨z, fun k hk => absurd hk (Nat.not_lt_zero k)⟩, fun z => z.1⟩⟩)
      iterate 3 (refine kX_one rfl ?_)
      refine kX_top (hS) ?_
      repeat refine kX_one rfl ?_
      refine kX_if (fun q => ?_) (fun q => ?_)
      · have q := qge q s S
        obtain rfl : s = S := by omega
        exact k121 hiN hnP PB j2 _ rfl rfl
      · have q := qgeF q s S
        repeat refine kX_one rfl ?_
        refine kX_if (fun q2 => ?_) (fun q2 => ?_)
        · have q2 : ¬ PB := fun z => isB_ne.mpr z (qeq q2)
          exact k121 hiN hnP PB ⟨fun z => absurd z q2, fun z => absurd (j2.mpr (fun s' hs' => z s' (by omega))) q2⟩ _ rfl rfl
        · have q2 : PB := isB_ne.mp (qeqF q2)
          have hbe := j2.mp q2
          repeat refine kX_one rfl ?_
          refine kX_ialdN rfl rfl (by decide) (4 * i + s) (ix4 i s) (by omega) ?_
          repeat refine kX_one rfl ?_
          refine kX_ialdN rfl rfl (by decide) (s) (by first | rfl | decide) (by omega) ?_
          repeat refine kX_one rfl ?_
          refine kX_if (fun q3 => ?_) (fun q3 => ?_)
          · have q3 := qne q3
            iterate 1 (refine kX_one rfl ?_)
            have := k56 q hbe False ⟨fun z => z.elim, fun z => q3 z⟩
            rw [isB_F (fun z => z)] at this
            exact this
          · have q3 := qneF q3
            iterate 2 (refine kX_one rfl ?_)
            have := k56 q hbe True ⟨fun _ => q3, fun _ => trivial⟩
            rw [isB_T trivial] at this
            exact this
    iterate 3 (refine kX_one rfl ?_)
    refine kX_top (hN) ?_
    repeat refine kX_one rfl ?_
    refine kX_if (fun q => ?_) (fun q => ?_)
    · have q := qge q i N
      obtain rfl : i = N := by omega
      exact k127 P i2 _ rfl rfl
    · have q := qgeF q i N
      repeat refine kX_one rfl ?_
      refine kX_if (fun q2 => ?_) (fun q2 => ?_)
      · have q2 : P := isB_ne.mp (qne q2)
        obtain ⟨j, z1, z2⟩ := i2.mp q2
        exact k127 P ⟨fun _ => ⟨j, by omega, z2⟩, fun _ => q2⟩ _ rfl rfl
      · have q2 : ¬ P := fun z => isB_ne.mpr z (qneF q2)
        iterate 4 (refine kX_one rfl ?_)
        have := loopB q q2 (0, True) ⟨Nat.zero_le _, ⟨fun _ s hs => absurd hs (Nat.not_lt_zero s), fun _ => trivial⟩⟩
        dsimp only at this
        rw [isB_T trivial] at this
        exact kX_lv _ rfl rfl rfl this
  iterate 4 (refine kX_one rfl ?_)
  have := loopA (0, False) ⟨Nat.zero_le _, ⟨fun z => z.elim, fun ⟨j, z, _⟩ => absurd z (Nat.not_lt_zero j)⟩⟩
  dsimp only at this
  rw [isB_F (fun z => z)] at this
  exact kX_lv _ rfl rfl rfl this
end
section
/-! alike: noteAttack -/
def naP (σ : kS) (n R S N : Nat) (r : Option Value) (σ' : kS) : Prop := r = none ∧ ∃ AS AT l0, σ' = naS σ AS AT (nI l0.length) ∧ mAk σ' n R S ∧ pthR σ (N - 1) l0 ∧ pthB σ S N (N - 1) l0 ∧ l0.length ≤ 24 ∧ ∀ p z, l0.reverse[p]? = some z → AS p = nI z.1 ∧ AT p = nI z.2
set_option maxRecDepth 100000 in
set_option maxHeartbeats 4000000 in
theorem mf_noteAttack (L : Nat) (xs : Nat → Int32) (d : Nat) (σ : kS) (n b R S N : Nat) (h : mTb σ n b) (hR : mRo σ n R) (hS4 : S ≤ 4) (hS : mSs σ n R S N) (hN : 0 < N) : kXM kT L xs (d + 1) 219 [.ref 232] σ (naP σ n R S N) := by
  have hN6 := hS.1
  obtain ⟨l0, hp, hP⟩ := pth_ex hS (N - 1) (by omega)
  have h24 := pth_24 hR hS4 hS hN hP
  have hst : σ 232 69 = nI (N - 1 + 1) := by rw [hS.2.1, show N - 1 + 1 = N by omega]
  unfold kXM
  have loop2 : ∀ q : List (Nat × Nat) × Nat × (Nat → Int32) × (Nat → Int32), ((∃ l1, l0 = l1 ++ q.1) ∧ q.2.1 < 600 ∧ pthR σ q.2.1 q.1 ∧ ∀ p z, q.1.length ≤ p → l0.reverse[p]? = some z → q.2.2.1 p = nI z.1 ∧ q.2.2.2 p = nI z.2) → kX kT L xs (d + 1) 219 38 [(2, .int (nI q.2.1)), (1, .int (nI q.1.length)), (0, .ref 232)] [] (naS σ q.2.2.1 q.2.2.2 (nI l0.length)) (naP σ n R S N) := by
    refine kX_while (fun q : List (Nat × Nat) × Nat × (Nat → Int32) × (Nat → Int32) => [(2, .int (nI q.2.1)), (1, .int (nI q.1.length)), (0, .ref 232)]) (fun q => naS σ q.2.2.1 q.2.2.2 (nI l0.length)) _ (fun q => q.1.length) ?_
    rintro ⟨l, t, AS, AT⟩ ⟨⟨l1, i1⟩, i2, i3, i4⟩ ih
    dsimp only at i1 i2 i3 i4 ih ⊢
    rcases l with _ | ⟨⟨m, t'⟩, l⟩
    · have i3 : t = 0 := i3
      subst i3
      iterate 2 (refine kX_one rfl ?_)
      refine kX_ret (i := .return_) (len := 1) rfl (Or.inr rfl) rfl (⟨rfl, AS, AT, l0, rfl, naS_Ak h hR hS4 hS hN hP h24 (fun p z hz => i4 p z (Nat.zero_le _) hz), hp, hP, h24, fun p z hz => i4 p z (Nat.zero_le _) hz⟩)
    · obtain ⟨rfl, j0, j1, j, j2, j3, j4⟩ := i3
      have hll : l.length < 24 := by
        have := congrArg List.length i1
        simp at this
        omega
      have hat : l0.reverse[l.length]? = some (m, t') := by
        rw [i1, List.reverse_append, List.reverse_cons, List.append_assoc, List.getElem?_append_right (by simp)]
        simp
      iterate 1 (refine kX_one rfl ?_)
      repeat refine kX_one rfl ?_
      refine kX_ifF (decide_eq_false (nI_nle (by omega) (by omega))) ?_
      iterate 1 (refine kX_one rfl ?_)
      refine kX_lv [(2, .int (nI t')), (1, .int (nI l.length)), (0, .ref 232)] rfl rfl ?_ ?_
      · rw [show nI l.length = nI (l.length + 1) + Int32.ofInt (-1) from (pk_m1 _).symm]
        rfl
      iterate 6 (refine kX_one rfl ?_)
      refine kX_ialdV rfl rfl (by decide) (t') (by first | rfl | decide) (i2) (j1) ?_
      refine kX_iastN rfl rfl (by decide) (l.length) (by first | rfl | decide) (by omega) ?_
      iterate 4 (refine kX_one rfl ?_)
      refine kX_iastN rfl rfl (by decide) (l.length) (by first | rfl | decide) (by omega) ?_
      iterate 3 (refine kX_one rfl ?_)
      refine kX_ialdV rfl rfl (by decide) (t') (by first | rfl | decide) (i2) (j3) ?_
      iterate 2 (refine kX_one rfl ?_)
      have := ih (l, j, upd AS l.length (nI m), upd AT l.length (nI t')) ⟨⟨l1 ++ [(m, t')], by rw [i1]; simp⟩, by simp only; omega, j4, fun p z hpl hz => by
        simp only at hpl ⊢
        by_cases e : p = l.length
        · subst e
          rw [hat] at hz
          obtain rfl := Option.some.inj hz
          rw [pk_us, pk_us]
          exact ⟨rfl, rfl⟩
        · rw [pk_un e, pk_un e]
          exact i4 p z (by rw [List.length_cons]; omega) hz⟩ (by simp)
      dsimp only at this
      refine kX_to _ _ rfl rfl rfl ?_ this
      funext c; unfold naS; first
        | ((repeat (refine va_case ?_ ?_; (· (intro h; first | (subst h; rfl) | (unfold va_up; repeat' split; (all_goals first | rfl | omega | (subst_vars; rfl) | (funext j; unfold upd; repeat' split; all_goals first | rfl | omega | (subst_vars; rfl)))))); intro h)); (repeat (refine va_case2 ?_ ?_; (· (intro h; first | exact absurd h (by assumption) | (subst h; rfl) | (subst h; funext j; unfold upd; repeat' split; (all_goals first | rfl | omega | (subst_vars; rfl))))); intro h)); rfl)
        | (unfold va_up; repeat' split
           all_goals first | rfl | omega | (subst_vars; rfl) | (funext j; unfold upd; repeat' split; all_goals first | rfl | omega | (subst_vars; rfl)))
  have loop1 : ∀ q : List (Nat × Nat) × Nat × Nat, (q.2.1 < 600 ∧ pthR σ q.2.1 q.1 ∧ q.2.2 + q.1.length = l0.length) → kX kT L xs (d + 1) 219 9 [(2, .int (nI q.2.1)), (1, .int (nI q.2.2)), (0, .ref 232)] [] σ (naP σ n R S N) := by
    refine kX_while (fun q : List (Nat × Nat) × Nat × Nat => [(2, .int (nI q.2.1)), (1, .int (nI q.2.2)), (0, .ref 232)]) (fun q => σ) _ (fun q => q.1.length) ?_
    rintro ⟨l, t, c⟩ ⟨i2, i3, i4⟩ ih
    dsimp only at i2 i3 i4 ih ⊢
    rcases l with _ | ⟨⟨m, t'⟩, l⟩
    · have i3 : t = 0 := i3
      subst i3
      have i4 : c = l0.length := i4
      subst i4
      iterate 7 (refine kX_one rfl ?_)
      refine kX_top (hst) ?_
      iterate 3 (refine kX_one rfl ?_)
      have := loop2 (l0, N - 1, σ 288, σ 289) ⟨⟨[], rfl⟩, by simp only; omega, hp, fun p z hpl hz => by
        have := (List.getElem?_eq_some_iff.mp hz).1
        simp at this hpl
        omega⟩
      dsimp only at this
      rw [← nI_pred] at this
      refine kX_to _ _ rfl rfl rfl ?_ this
      funext c; unfold naS; first
        | ((repeat (refine va_case ?_ ?_; (· (intro h; first | (subst h; rfl) | (unfold va_up; repeat' split; (all_goals first | rfl | omega | (subst_vars; rfl) | (funext j; unfold upd; repeat' split; all_goals first | rfl | omega | (subst_vars; rfl)))))); intro h)); (repeat (refine va_case2 ?_ ?_; (· (intro h; first | exact absurd h (by assumption) | (subst h; rfl) | (subst h; funext j; unfold upd; repeat' split; (all_goals first | rfl | omega | (subst_vars; rfl))))); intro h)); rfl)
        | (unfold va_up; repeat' split
           all_goals first | rfl | omega | (subst_vars; rfl) | (funext j; unfold upd; repeat' split; all_goals first | rfl | omega | (subst_vars; rfl)))
    · obtain ⟨rfl, j0, j1, j, j2, j3, j4⟩ := i3
      iterate 1 (refine kX_one rfl ?_)
      repeat refine kX_one rfl ?_
      refine kX_ifF (decide_eq_false (nI_nle (by omega) (by omega))) ?_
      iterate 4 (refine kX_one rfl ?_)
      refine kX_ialdV rfl rfl (by decide) (t') (by first | rfl | decide) (i2) (j3) ?_
      iterate 2 (refine kX_one rfl ?_)
      have := ih (l, j, c + 1) ⟨by simp only; omega, j4, by
        simp only
        rw [List.length_cons] at i4
        omega⟩ (by simp)
      dsimp only at this
      rw [← nI_1] at this
      exact kX_lv _ rfl rfl rfl this
  iterate 4 (refine kX_one rfl ?_)
  refine kX_top (hst) ?_
  iterate 3 (refine kX_one rfl ?_)
  have := loop1 (l0, N - 1, 0) ⟨by simp only; omega, hp, by simp⟩
  dsimp only at this
  rw [← nI_pred] at this
  exact kX_lv _ rfl rfl rfl this
end
section
/-! alike: comesToBe, which claim breaks -/
/-- the reference's word for the class's answer -/
def cbR (C : Nat) (a : Int32) (r : Option Value) : Prop := (r = some (.int (-6)) ∧ a = 0) ∨ ∃ c, c < C ∧ r = some (.int (nI c)) ∧ a = nI (1 + c)
set_option maxRecDepth 100000 in
set_option maxHeartbeats 4000000 in
theorem mf_ce_brk (L : Nat) (xs : Nat → Int32) (d : Nat) (σ : kS) (n b R S C : Nat) (kl : List Nat) (l : rwT) (h : mTb σ n b) (hB : mBs σ n R S C kl) (hc : cfg σ n R S (σ 264) (σ 265)) (x y z : Int32) (Q : Option Value → kS → Prop)
    (he : ∀ r τ, cbR C (fsB (fun c => mBt σ (rwM σ l) c S) C 0) r → mFr σ τ n → (∃ b', mTb τ n b') → Q r τ) :
    ∀ q : Nat × kS, (q.1 ≤ C ∧ mFr σ q.2 n ∧ mTb q.2 n b ∧ mRq q.2 (mvG q.2 n b) l ∧ mJd q.2 n b l ∧ rwM q.2 l = rwM σ l ∧ ∀ c, c < q.1 → ¬ mBt σ (rwM σ l) c S) → kX kT L xs (d + 7) 213 201 [(4, .int (nI q.1)), (0, .ref 232), (1, .int x), (2, .int y), (3, .int z)] [] q.2 Q := by
  have hC6 := hB.2.2.2.1
  have hS4 := hB.2.1.1
  refine kX_while (fun q : Nat × kS => [(4, .int (nI q.1)), (0, .ref 232), (1, .int x), (2, .int y), (3, .int z)]) (fun q => q.2) _ (fun q => C - q.1) ?_
  rintro ⟨c, τ⟩ ⟨i1, i2, i3, i4, i5, i6, i7⟩ ih
  dsimp only at i1 i2 i3 i4 i5 i6 i7 ih ⊢
  have hB2 := mBs_sf h (mSf_fr i2) hB
  iterate 3 (refine kX_one rfl ?_)
  refine kX_top (hB2.2.2.2.2.1) ?_
  repeat refine kX_one rfl ?_
  refine kX_if (fun q => ?_) (fun q => ?_)
  · have q := qge q c C
    have hz : cbR C (fsB (fun c => mBt σ (rwM σ l) c S) C 0) (some (.int (-6))) := Or.inl ⟨rfl, fsB_no C 0 (fun c' _ h2 => i7 c' (by omega))⟩
    repeat refine kX_one rfl ?_
    refine kX_ret (i := .ireturn) (len := 1) rfl (Or.inr rfl) rfl (he _ τ hz i2 ⟨b, i3⟩)
  · have q := qgeF q c C
    have hc2 : cfg τ n R S (τ 264) (τ 265) := by
      rw [i2.1 264 (by decide), i2.1 265 (by decide)]
      exact cfg_sf h hB.1 (mSf_fr i2) hc
    have hbk := mBk_tr (l := l) h i2 hB.1 hB.2.2.2 q hS4 (cfg_Sv h hB.1 hB.2.1 hc)
    rw [i6] at hbk
    iterate 2 (refine kX_one rfl ?_)
    refine kX_cal (mr_isBroken L xs d τ n b R S C c l i3 hB2.1 hS4 (cfg_Sv i3 hB2.1 hB2.2.1 hc2) hB2.2.2.2 q i4 i5) rfl (Or.inr rfl) rfl rfl rfl (fun r1 σ2 q1 => ?_)
    obtain ⟨rfl, k1, -⟩ := q1
    repeat refine kX_one rfl ?_
    refine kX_if (fun q3 => ?_) (fun q3 => ?_)
    · have q3 : ¬ mBk τ l c S := fun w => isB_ne.mpr w (qeq q3)
      iterate 2 (refine kX_one rfl ?_)
      have := ih (c + 1, σ2) ⟨q, mFr_trans i2 k1.1, k1.2.1, k1.2.2.1, k1.2.2.2.1, k1.2.2.2.2.trans i6, fun c' hc' => by
        by_cases e : c' = c
        · subst e
          exact fun w => q3 (hbk.mpr w)
        · exact i7 c' (by simp only at hc'; omega)⟩ (by simp only; omega)
      dsimp only at this
      rw [← nI_1] at this
      exact kX_lv _ rfl rfl rfl this
    · have q3 : mBk τ l c S := isB_ne.mp (qeqF q3)
      have hz : cbR C (fsB (fun c => mBt σ (rwM σ l) c S) C 0) (some (.int (nI c))) := Or.inr ⟨c, q, rfl, fsB_at (P := fun c => mBt σ (rwM σ l) c S) (j := c) (hbk.mp q3) C 0 (Nat.zero_le _) (by omega) (fun c' _ h2 => i7 c' h2)⟩
      repeat refine kX_one rfl ?_
      refine kX_ret (i := .ireturn) (len := 1) rfl (Or.inr rfl) rfl (he _ σ2 hz (mFr_trans i2 k1.1) ⟨b, k1.2.1⟩)
end
section
/-! alike: comesToBe, a STATE is noted -/
/-- the session s has done all -/
def adN (σ : kS) (s : Nat) : Prop := σ 264 s = σ 247 (fN (σ 255 s))
set_option maxRecDepth 100000 in
set_option maxHeartbeats 4000000 in
theorem mf_ce_copy (L : Nat) (xs : Nat → Int32) (d : Nat) (σ : kS) (n R S N : Nat) (hS : mSe σ n R S) (hR : R ≤ 4) (hN : σ 232 69 = nI N) (hN6 : N < 600) (x y : Int32) (Q : Option Value → kS → Prop)
    (he : ∀ SD SV (P : Prop), (P ↔ ∀ s, s < S → adN σ s) → ceI σ N S SD SV → kX kT L xs (d + 1) 213 146 [(3, .int (isB P)), (0, .ref 232), (1, .int x), (2, .int y)] [] (ceS σ SD SV) Q) :
    ∀ q : Nat × Prop × (Nat → Int32) × (Nat → Int32), (q.1 ≤ S ∧ (q.2.1 ↔ ∀ s, s < q.1 → adN σ s) ∧ ceI σ N q.1 q.2.2.1 q.2.2.2) → kX kT L xs (d + 1) 213 28 [(4, .int (nI q.1)), (3, .int (isB q.2.1)), (0, .ref 232), (1, .int x), (2, .int y)] [] (ceS σ q.2.2.1 q.2.2.2) Q := by
  have hS4 := hS.1
  refine kX_while (fun q : Nat × Prop × (Nat → Int32) × (Nat → Int32) => [(4, .int (nI q.1)), (3, .int (isB q.2.1)), (0, .ref 232), (1, .int x), (2, .int y)]) (fun q => ceS σ q.2.2.1 q.2.2.2) _ (fun q => S - q.1) ?_
  rintro ⟨s, P, SD, SV⟩ ⟨i1, i0, i2, i3, i4, i5⟩ ih
  dsimp only at i1 i0 i2 i3 i4 i5 ih ⊢
  iterate 3 (refine kX_one rfl ?_)
  refine kX_top (hS.2.1) ?_
  repeat refine kX_one rfl ?_
  refine kX_if (fun q => ?_) (fun q => ?_)
  · have q := qge q s S
    obtain rfl : s = S := by omega
    exact kX_lv _ rfl rfl rfl (he SD SV P i0 ⟨i2, i3, i4, i5⟩)
  · have q := qgeF q s S
    obtain ⟨r, r1, r2, -⟩ := hS.2.2 s q
    have k89 : ∀ P' : Prop, (P' ↔ ∀ s', s' < s + 1 → adN σ s') → kX kT L xs (d + 1) 213 89 [(4, .int (nI s)), (3, .int (isB P)), (0, .ref 232), (1, .int x), (2, .int y)] [.int (isB P')] (ceS σ (upd SD (4 * N + s) (σ 264 s)) SV) Q := by
      intro P' hP'
      iterate 3 (refine kX_one rfl ?_)
      have := mr_ce_in L xs d σ N s hN hN6 (by omega) x y P' (upd SD (4 * N + s) (σ 264 s)) Q (fun SV' h' => by
        iterate 2 (refine kX_one rfl ?_)
        have := ih (s + 1, P', upd SD (4 * N + s) (σ 264 s), SV') ⟨q, hP', h'⟩ (by simp only; omega)
        dsimp only at this
        rw [← nI_1] at this
        exact kX_lv _ rfl rfl rfl this) (0, SV) ⟨Nat.zero_le _, fun j hj => by
          rw [pk_un (by omega)]
          exact i2 j hj, fun u hu => by
          by_cases e : u = s
          · subst e
            exact pk_us
          · rw [pk_un (by omega)]
            exact i3 u (by omega), i4, i5, fun k hk => absurd hk (Nat.not_lt_zero k)⟩
      exact kX_lv _ rfl rfl rfl this
    iterate 5 (refine kX_one rfl ?_)
    refine kX_top (hN) ?_
    iterate 6 (refine kX_one rfl ?_)
    refine kX_ialdN rfl rfl (by decide) (s) (by first | rfl | decide) (by omega) ?_
    refine kX_iastN rfl rfl (by decide) (4 * N + s) (ix4 N s) (by omega) ?_
    refine kX_to [(4, .int (nI s)), (3, .int (isB P)), (0, .ref 232), (1, .int x), (2, .int y)] (ceS σ (upd SD (4 * N + s) (σ 264 s)) SV) rfl rfl rfl ?_ ?_
    · funext c; unfold ceS; first
        | ((repeat (refine va_case ?_ ?_; (· (intro h; first | (subst h; rfl) | (unfold va_up; repeat' split; (all_goals first | rfl | omega | (subst_vars; rfl) | (funext j; unfold upd; repeat' split; all_goals first | rfl | omega | (subst_vars; rfl)))))); intro h)); (repeat (refine va_case2 ?_ ?_; (· (intro h; first | exact absurd h (by assumption) | (subst h; rfl) | (subst h; funext j; unfold upd; repeat' split; (all_goals first | rfl | omega | (subst_vars; rfl))))); intro h)); rfl)
        | (unfold va_up; repeat' split
           all_goals first | rfl | omega | (subst_vars; rfl) | (funext j; unfold upd; repeat' split; all_goals first | rfl | omega | (subst_vars; rfl)))
    have hfr : fN (σ 255 s) = r := by rw [r2]; exact fN_nI (by omega)
    repeat refine kX_one rfl ?_
    refine kX_if (fun q2 => ?_) (fun q2 => ?_)
    · have q2 : ¬ P := fun w => isB_ne.mpr w (qeq q2)
      iterate 1 (refine kX_one rfl ?_)
      have := k89 False ⟨fun w => w.elim, fun w => q2 (i0.mpr (fun s' hs' => w s' (by omega)))⟩
      rw [isB_F (fun z => z)] at this
      exact this
    · have q2 : P := isB_ne.mp (qeqF q2)
      have hbe := i0.mp q2
      iterate 3 (refine kX_one rfl ?_)
      refine kX_ialdN rfl rfl (by decide) (s) (by first | rfl | decide) (by omega) ?_
      iterate 5 (refine kX_one rfl ?_)
      refine kX_ialdV rfl rfl (by decide) (s) (by first | rfl | decide) (by omega) (r2) ?_
      refine kX_ialdN rfl rfl (by decide) (r) (by first | rfl | decide) (by omega) ?_
      repeat refine kX_one rfl ?_
      refine kX_if (fun q3 => ?_) (fun q3 => ?_)
      · have q3 : σ 264 s ≠ σ 247 r := qne q3
        iterate 1 (refine kX_one rfl ?_)
        have := k89 False ⟨fun w => w.elim, fun w => by have w2 := w s (by omega); unfold adN at w2; rw [hfr] at w2; exact q3 w2⟩
        rw [isB_F (fun z => z)] at this
        exact this
      · have q3 : σ 264 s = σ 247 r := qneF q3
        iterate 2 (refine kX_one rfl ?_)
        have := k89 True ⟨fun _ s' hs' => by
          by_cases e : s' = s
          · subst e
            unfold adN
            rw [hfr]
            exact q3
          · exact hbe s' (by omega), fun _ => trivial⟩
        rw [isB_T trivial] at this
        exact this
end
section
/-! alike: comesToBe -/
theorem trSt_eq {σ τ : kS} {kl : List Nat} {S : Nat} (e1 : τ 233 = σ 233) (e2 : τ 234 = σ 234) (e3 : τ 235 = σ 235) (e4 : τ 265 = σ 265) (e5 : τ 241 = σ 241) (e6 : τ 249 = σ 249) (e7 : τ 248 = σ 248) (e8 : τ 255 = σ 255) (e9 : τ 238 = σ 238) (e10 : τ 264 = σ 264) : trSt τ kl S = trSt σ kl S := by
  have h1 : trKn τ kl = trKn σ kl := by
    unfold trKn
    rw [e1, e2, e3]
  have h2 : tin τ = tin σ := by
    funext s t
    unfold tin mVl
    rw [e1, e2, e3, e4, e5]
  have h3 : ∀ s tr k, trSe τ s tr k = trSe σ s tr k := by
    intro s tr k
    induction k with
    | zero => rfl
    | succ k ih =>
      unfold trSe mEv
      rw [ih, h2, e6, e7, e8]
  have h4 : ∀ tr s, trSs τ tr s = trSs σ tr s := by
    intro tr s
    induction s with
    | zero => rfl
    | succ s ih =>
      unfold trSs
      rw [ih, h3, e10]
  have h5 : mA τ = mA σ := by
    unfold mA
    rw [e1]
  unfold trSt
  rw [h1, h4, h5, e9]
/-- a STATE more -/
def ceG (σ σ' : kS) (S C N : Nat) (kl : List Nat) (x y : Int32) (r : Option Value) : Prop := cbR C (fsB (fun c => mBt σ (trSt σ kl S) c S) C 0) r ∧ σ' 232 69 = nI (N + 1) ∧ σ' 232 71 = σ 232 71 + isB (∀ s, s < S → adN σ s) ∧ (∀ j, j ∉ rowJ → j ≠ 69 → j ≠ 71 → σ' 232 j = σ 232 j) ∧ σ' 286 = upd (σ 286) N x ∧ σ' 287 = upd (σ 287) N y ∧ (∀ s, s < S → stD σ' N s = σ 264 s) ∧ ∀ s k, s < S → k < 6 → stV σ' N (6 * s + k) = σ 265 (6 * s + k)
set_option maxRecDepth 100000 in
set_option maxHeartbeats 4000000 in
theorem mf_ce_two (L : Nat) (xs : Nat → Int32) (d : Nat) (σ : kS) (n b R S C N : Nat) (kl : List Nat) (x y : Int32) (h : mTb σ n b) (hB : mBs σ n R S C kl) (hS : mSs σ n R S N) (hN6 : N < 600) (hc : cfg σ n R S (σ 264) (σ 265)) (hl : (N = 0 ∧ ∀ s, s < S → σ 264 s = 0) ∨ ∃ j m, j < N ∧ x = nI j ∧ y = nI m ∧ stp S (stD σ j) (stV σ j) (σ 264) (σ 265) m) (SD SV : Nat → Int32) (P : Prop) (hPa : P ↔ ∀ s, s < S → adN σ s) (hI : ceI σ N S SD SV) :
    kX kT L xs (d + 8) 213 146 [(3, .int (isB P)), (0, .ref 232), (1, .int x), (2, .int y)] [] (ceS σ SD SV) (fun r σ' => ceP σ σ' n R S C N r ∧ ceG σ σ' S C N kl x y r) := by
  have hS4 := hB.2.1.1
  have hN := hS.2.1
  have k194 : ∀ e : Int32, e = σ 232 71 + isB P → kX kT L xs (d + 8) 213 194 [(3, .int (isB P)), (0, .ref 232), (1, .int x), (2, .int y)] [] (ceT σ N SD SV x y e) (fun r σ' => ceP σ σ' n R S C N r ∧ ceG σ σ' S C N kl x y r) := by
    intro e hee
    have hF := ceT_sf σ n N SD SV x y e
    have hT : mTb (ceT σ N SD SV x y e) n b := h
    have hB2 := mBs_sf h hF hB
    have hS2 := ceT_Ss (e := e) h hB.1 hS hS4 hN6 hI hc hl
    have hc2 : cfg (ceT σ N SD SV x y e) n R S (ceT σ N SD SV x y e 264) (ceT σ N SD SV x y e 265) := cfg_sf h hB.1 hF hc
    have hst : ∀ i, i < N → (∀ s, s < S → stD (ceT σ N SD SV x y e) i s = stD σ i s) ∧ ∀ s k, s < S → k < 6 → stV (ceT σ N SD SV x y e) i (6 * s + k) = stV σ i (6 * s + k) := fun i hi => ⟨fun s hs => hI.1 (4 * i + s) (by omega), fun s k hs hk => hI.2.2.1 (24 * i + (6 * s + k)) (by omega)⟩
    have hd : ceT σ N SD SV x y e 264 = σ 264 := rfl
    have hv : ceT σ N SD SV x y e 265 = σ 265 := rfl
    have ho : ceT σ N SD SV x y e 292 = σ 292 := rfl
    have hch : ceT σ N SD SV x y e 293 = σ 293 := rfl
    have hpa : ceT σ N SD SV x y e 286 = upd (σ 286) N x := rfl
    have hmo : ceT σ N SD SV x y e 287 = upd (σ 287) N y := rfl
    have h232 : ceT σ N SD SV x y e 232 = upd (upd (σ 232) 69 (nI (N + 1))) 71 e := rfl
    have hnw : (∀ s, s < S → stD (ceT σ N SD SV x y e) N s = σ 264 s) ∧ ∀ s k, s < S → k < 6 → stV (ceT σ N SD SV x y e) N (6 * s + k) = σ 265 (6 * s + k) := ⟨fun s hs => hI.2.1 s hs, fun s k hs hk => by
      have := hI.2.2.2 s k hs hk
      rw [show 24 * N + 6 * s + k = 24 * N + (6 * s + k) by omega] at this
      exact this⟩
    have hbt : ∀ tr c, mBt (ceT σ N SD SV x y e) tr c S = mBt σ tr c S := fun _ _ => rfl
    have htt : trSt (ceT σ N SD SV x y e) kl S = trSt σ kl S := trSt_eq rfl rfl rfl rfl rfl rfl rfl rfl rfl rfl
    generalize ceT σ N SD SV x y e = ρ at *
    iterate 1 (refine kX_one rfl ?_)
    refine kX_cal (mr_stateRow L xs d ρ n b R S kl hT hB2.2.2.1 hB2.1 hS4 (cfg_Sv hT hB2.1 hB2.2.1 hc2)) rfl (Or.inr rfl) rfl rfl rfl (fun r1 σ1 q1 => ?_)
    obtain ⟨rfl, -, b', l, -, g1, g2, g3, g4, g5⟩ := q1
    have hB3 := mBs_sf hT (mSf_fr g1) hB2
    have hS3 := mSs_fr hT hB2.1 g1 hS2
    have ed := g1.1 264 (by decide)
    have ev := g1.1 265 (by decide)
    have hc3 : cfg σ1 n R S (σ1 264) (σ1 265) := by
      rw [ed, ev]
      exact cfg_sf hT hB2.1 (mSf_fr g1) hc2
    iterate 2 (refine kX_one rfl ?_)
    have := mf_ce_brk L xs (d + 1) σ1 n b' R S C kl l g2 hB3 hc3 x y (isB P) (fun r σ' => ceP σ σ' n R S C N r ∧ ceG σ σ' S C N kl x y r) (fun r τ e1 e2 e3 => ?_) (0, σ1) ⟨Nat.zero_le _, mFr_refl σ1 n, g2, g3, g4, rfl, fun c hc => absurd hc (Nat.not_lt_zero c)⟩
    · exact kX_lv _ rfl rfl rfl this
    · have hS4' := mSs_fr g2 hB3.1 e2 hS3
      have esd : τ 284 = ρ 284 := (e2.1 _ (by decide)).trans (g1.1 _ (by decide))
      have esv : τ 285 = ρ 285 := (e2.1 _ (by decide)).trans (g1.1 _ (by decide))
      have hfc : fsB (fun c => mBt σ1 (rwM σ1 l) c S) C 0 = fsB (fun c => mBt σ (trSt σ kl S) c S) C 0 := fsB_congr C 0 (fun c _ hc => by
        have a1 := mBk_tr (l := l) g2 (mFr_refl σ1 n) hB3.1 hB3.2.2.2 (c := c) (by omega) hS4 (cfg_Sv g2 hB3.1 hB3.2.1 hc3)
        have a2 := mBk_tr (l := l) hT g1 hB2.1 hB2.2.2.2 (c := c) (by omega) hS4 (cfg_Sv hT hB2.1 hB2.2.1 hc2)
        rw [← a1, a2, g5, htt, hbt])
      rw [hfc] at e1
      have e1' : ceR C (N + 1) r := by
        rcases e1 with w | ⟨c, w1, w2, -⟩
        · exact Or.inl w.1
        · exact Or.inr (Or.inr ⟨c, w1, w2, by omega⟩)
      have o232 : ∀ j, j ∉ rowJ → τ 232 j = ρ 232 j := fun j hj => (e2.2.1 j hj).trans (g1.2.1 j hj)
      refine ⟨⟨N + 1, by omega, by omega, e1', mSf_trans hF (mSf_trans (mSf_fr g1) (mSf_fr e2)), e3, hS4', ?_, ?_, ?_, ?_, fun i hi => ?_⟩, e1, ?_, ?_, ?_, ?_, ?_, ?_⟩
      · rw [e2.1 264 (by decide), ed, hd]
      · rw [e2.1 265 (by decide), ev, hv]
      · rw [e2.1 292 (by decide), g1.1 292 (by decide), ho]
      · rw [e2.1 293 (by decide), g1.1 293 (by decide), hch]
      · have := hst i hi
        unfold stD stV at this ⊢
        rw [esd, esv]
        exact this
      · rw [o232 _ (by decide), h232, pk_un (by decide), pk_us]
      · rw [o232 _ (by decide), h232, pk_us, hee, isB_iff hPa]
      · intro j hj j1 j2
        rw [o232 j hj, h232, pk_un j2, pk_un j1]
      · rw [e2.1 286 (by decide), g1.1 286 (by decide), hpa]
      · rw [e2.1 287 (by decide), g1.1 287 (by decide), hmo]
      · unfold stD stV at hnw ⊢
        rw [esd, esv]
        exact hnw
  have k190 : ∀ m : Int32, m = isB P → kX kT L xs (d + 8) 213 190 [(3, .int (isB P)), (0, .ref 232), (1, .int x), (2, .int y)] [.int m, .int (σ 232 71), .ref 232] (va_up (va_up (va_up (ceS σ SD SV) 286 (upd (σ 286) N x)) 287 (upd (σ 287) N y)) 232 (upd (σ 232) 69 (nI (N + 1)))) (fun r σ' => ceP σ σ' n R S C N r ∧ ceG σ σ' S C N kl x y r) := by
    intro m hm
    iterate 2 (refine kX_one rfl ?_)
    refine kX_st (ceT σ N SD SV x y (σ 232 71 + m)) ?_ (k194 _ (by rw [hm]))
    funext c; unfold ceT; first
      | ((repeat (refine va_case ?_ ?_; (· (intro h; first | (subst h; rfl) | (unfold va_up; repeat' split; (all_goals first | rfl | omega | (subst_vars; rfl) | (funext j; unfold upd; repeat' split; all_goals first | rfl | omega | (subst_vars; rfl)))))); intro h)); (repeat (refine va_case2 ?_ ?_; (· (intro h; first | exact absurd h (by assumption) | (subst h; rfl) | (subst h; funext j; unfold upd; repeat' split; (all_goals first | rfl | omega | (subst_vars; rfl))))); intro h)); rfl)
      | (unfold va_up; repeat' split
         all_goals first | rfl | omega | (subst_vars; rfl) | (funext j; unfold upd; repeat' split; all_goals first | rfl | omega | (subst_vars; rfl)))
  iterate 4 (refine kX_one rfl ?_)
  refine kX_top (hN) ?_
  iterate 1 (refine kX_one rfl ?_)
  refine kX_iastN rfl rfl (by decide) (N) (by first | rfl | decide) (by omega) ?_
  iterate 4 (refine kX_one rfl ?_)
  refine kX_top (hN) ?_
  iterate 1 (refine kX_one rfl ?_)
  refine kX_iastN rfl rfl (by decide) (N) (by first | rfl | decide) (by omega) ?_
  iterate 3 (refine kX_one rfl ?_)
  refine kX_top (hN) ?_
  iterate 3 (refine kX_one rfl ?_)
  refine kX_st (va_up (va_up (va_up (ceS σ SD SV) 286 (upd (σ 286) N x)) 287 (upd (σ 287) N y)) 232 (upd (σ 232) 69 (nI (N + 1)))) ?_ ?_
  · rw [← nI_1]
    funext c; unfold ceS; first
      | ((repeat (refine va_case ?_ ?_; (· (intro h; first | (subst h; rfl) | (unfold va_up; repeat' split; (all_goals first | rfl | omega | (subst_vars; rfl) | (funext j; unfold upd; repeat' split; all_goals first | rfl | omega | (subst_vars; rfl)))))); intro h)); (repeat (refine va_case2 ?_ ?_; (· (intro h; first | exact absurd h (by assumption) | (subst h; rfl) | (subst h; funext j; unfold upd; repeat' split; (all_goals first | rfl | omega | (subst_vars; rfl))))); intro h)); rfl)
      | (unfold va_up; repeat' split
         all_goals first | rfl | omega | (subst_vars; rfl) | (funext j; unfold upd; repeat' split; all_goals first | rfl | omega | (subst_vars; rfl)))
  iterate 3 (refine kX_one rfl ?_)
  repeat refine kX_one rfl ?_
  refine kX_if (fun q => ?_) (fun q => ?_)
  · have q : ¬ P := fun w => isB_ne.mpr w (qeq q)
    iterate 1 (refine kX_one rfl ?_)
    exact k190 0 (isB_F q).symm
  · have q : P := isB_ne.mp (qeqF q)
    iterate 2 (refine kX_one rfl ?_)
    exact k190 1 (isB_T q).symm
set_option maxRecDepth 100000 in
set_option maxHeartbeats 4000000 in
theorem mf_comesToBe (L : Nat) (xs : Nat → Int32) (d : Nat) (σ : kS) (n b R S C N : Nat) (kl : List Nat) (x y : Int32) (h : mTb σ n b) (hB : mBs σ n R S C kl) (hS : mSs σ n R S N) (hc : cfg σ n R S (σ 264) (σ 265)) (hl : (N = 0 ∧ ∀ s, s < S → σ 264 s = 0) ∨ ∃ j m, j < N ∧ x = nI j ∧ y = nI m ∧ stp S (stD σ j) (stV σ j) (σ 264) (σ 265) m) :
    kXM kT L xs (d + 8) 213 [.ref 232, .int x, .int y] σ (fun r σ' => ceP σ σ' n R S C N r ∧ (((∃ i, i < N ∧ smS σ S i) ∧ r = some (.int (-6)) ∧ σ = σ') ∨ (¬ (∃ i, i < N ∧ smS σ S i) ∧ N = 600 ∧ r = some (.int (-7)) ∧ σ = σ') ∨ (¬ (∃ i, i < N ∧ smS σ S i) ∧ N < 600 ∧ ceG σ σ' S C N kl x y r))) := by
  have hS4 := hB.2.1.1
  have hR4 := hB.1.1
  have hN6 := hS.1
  have hN := hS.2.1
  unfold kXM
  iterate 1 (refine kX_one rfl ?_)
  refine kX_cal (mf_isThere L xs (d + 6) σ S N hB.2.1.2.1 hS4 hN hN6) rfl (Or.inr rfl) rfl rfl rfl (fun r1 σ1 q1 => ?_)
  obtain ⟨rfl, rfl⟩ := q1
  repeat refine kX_one rfl ?_
  refine kX_if (fun q => ?_) (fun q => ?_)
  · have q : ¬ (∃ i, i < N ∧ smS σ S i) := fun w => isB_ne.mpr w (qeq q)
    iterate 2 (refine kX_one rfl ?_)
    refine kX_top (hN) ?_
    iterate 1 (refine kX_one rfl ?_)
    repeat refine kX_one rfl ?_
    refine kX_if (fun q2 => ?_) (fun q2 => ?_)
    · have q2 : N ≠ 600 := fun e => qne q2 (by rw [e]; decide)
      iterate 4 (refine kX_one rfl ?_)
      have := mf_ce_copy L xs (d + 7) σ n R S N hB.2.1 hR4 hN (by omega) x y (fun r σ' => ceP σ σ' n R S C N r ∧ (((∃ i, i < N ∧ smS σ S i) ∧ r = some (.int (-6)) ∧ σ = σ') ∨ (¬ (∃ i, i < N ∧ smS σ S i) ∧ N = 600 ∧ r = some (.int (-7)) ∧ σ = σ') ∨ (¬ (∃ i, i < N ∧ smS σ S i) ∧ N < 600 ∧ ceG σ σ' S C N kl x y r))) (fun SD SV P hPa hI => kX_post (mf_ce_two L xs d σ n b R S C N kl x y h hB hS (by omega) hc hl SD SV P hPa hI) (fun r σ' w => ⟨w.1, Or.inr (Or.inr ⟨q, by omega, w.2⟩)⟩)) (0, True, σ 284, σ 285) ⟨Nat.zero_le _, ⟨fun _ s hs => absurd hs (Nat.not_lt_zero s), fun _ => trivial⟩, fun j _ => rfl, fun u hu => absurd hu (Nat.not_lt_zero u), fun j _ => rfl, fun u k hu => absurd hu (Nat.not_lt_zero u)⟩
      dsimp only at this
      rw [isB_T trivial] at this
      refine kX_to _ _ rfl rfl rfl ?_ this
      funext c; unfold ceS; first
        | ((repeat (refine va_case ?_ ?_; (· (intro h; first | (subst h; rfl) | (unfold va_up; repeat' split; (all_goals first | rfl | omega | (subst_vars; rfl) | (funext j; unfold upd; repeat' split; all_goals first | rfl | omega | (subst_vars; rfl)))))); intro h)); (repeat (refine va_case2 ?_ ?_; (· (intro h; first | exact absurd h (by assumption) | (subst h; rfl) | (subst h; funext j; unfold upd; repeat' split; (all_goals first | rfl | omega | (subst_vars; rfl))))); intro h)); rfl)
        | (unfold va_up; repeat' split
           all_goals first | rfl | omega | (subst_vars; rfl) | (funext j; unfold upd; repeat' split; all_goals first | rfl | omega | (subst_vars; rfl)))
    · have q2 : nI N = nI 600 := qneF q2
      have q2 : N = 600 := nI_inj q2
      repeat refine kX_one rfl ?_
      refine kX_ret (i := .ireturn) (len := 1) rfl (Or.inr rfl) rfl (⟨ceP_same h hS (Or.inr rfl), Or.inr (Or.inl ⟨q, q2, rfl, rfl⟩)⟩)
  · have q : ∃ i, i < N ∧ smS σ S i := isB_ne.mp (qeqF q)
    repeat refine kX_one rfl ?_
    refine kX_ret (i := .ireturn) (len := 1) rfl (Or.inr rfl) rfl (⟨ceP_same h hS (Or.inl rfl), Or.inl ⟨q, rfl, rfl⟩⟩)
end
section
/-! alike: THE SEARCH, one function for both sides -/
/-- STATES with parent and mover; ways; finished; the answer (0: none, -7: open, 1 + c) -/
abbrev sX := List ((Nat → Int32) × Int32 × Int32) × Nat × Nat × Int32
/-- a STATE comes to be -/
noncomputable def sRe (σ : kS) (kl : List Nat) (S C : Nat) (x : sX) (a : Nat → Int32) (f s : Int32) : sX := cit (∃ q ∈ x.1, q.1 = a) x (cit (600 ≤ x.1.length) (x.1, x.2.1, x.2.2.1, -7) (x.1 ++ [(a, f, s)], x.2.1, x.2.2.1 + cit (∀ s, s < S → adN (stI σ a) s) 1 0, fsB (fun c => mBt (stI σ a) (trSt (stI σ a) kl S) c S) C 0))
/-- one EVENT more of the session s -/
def aUp (a : Nat → Int32) (s : Nat) : Nat → Int32 := upd a (7 * s) (a (7 * s) + 1)
/-- VARIABLES come to stand for TERMS -/
def aSet (a : Nat → Int32) (s : Nat) : List (Nat × Nat) → Nat → Int32
  | [] => a
  | q :: l => aSet (upd a (7 * s + 1 + q.1) (nI q.2)) s l
/-- the way w: what each VARIABLE comes to stand for -/
def wyT (os : List (List Nat)) (w : Nat) : List Nat := (os.zip (dg (os.map List.length) w)).map (fun q => q.1.getD q.2 0)
/-- m ways from w on, while there is no answer: from the STATE a (the i-th), the EVENT's TERM t, places ps -/
noncomputable def sWy (σ : kS) (kl : List Nat) (S C i s : Nat) (a : Nat → Int32) (t : Nat) (ps : List Nat) (os : List (List Nat)) : Nat → Nat → sX → sX
  | 0, _, x => x
  | m + 1, w, x => cit (x.2.2.2 = 0) (sWy σ kl S C i s a t ps os m (w + 1) (cit (trM σ (trSt (stI σ a) kl S) (tin (stI σ (aSet (aUp a s) s (ps.zip (wyT os w)))) s t)) (sRe σ kl S C x (aSet (aUp a s) s (ps.zip (wyT os w))) (nI i) (nI s)) x)) x
/-- a session of the STATE a goes on -/
noncomputable def sSe (σ : kS) (kl : List Nat) (n S C i s : Nat) (a : Nat → Int32) (x : sX) : sX :=
  let r := fN (σ 255 s)
  let e := fN (a (7 * s))
  cit (e < fN (σ 247 r)) (cit (σ 249 (6 * r + e) ≠ 0) (sRe σ kl S C x (aUp a s) (nI i) (nI s))
    (let os := (bls σ r e).map (fun u => opL σ (fN (σ 240 u)) n)
     let W := wyN (os.map List.length)
     cit (20000 < x.2.1 + W) (x.1, 20001, x.2.2.1, -7) (sWy σ kl S C i s a (fN (σ 248 (6 * r + e))) ((bls σ r e).map (fun u => fN (σ 241 u))) os W 0 (x.1, x.2.1 + W, x.2.2.1, x.2.2.2)))) x
/-- m sessions from s on, while there is no answer -/
noncomputable def sGo (σ : kS) (kl : List Nat) (n S C i : Nat) (a : Nat → Int32) : Nat → Nat → sX → sX
  | 0, _, x => x
  | m + 1, s, x => cit (x.2.2.2 = 0) (sGo σ kl n S C i a m (s + 1) (sSe σ kl n S C i s a x)) x
/-- m STATES from the i-th on, while there is no answer -/
noncomputable def sAll (σ : kS) (kl : List Nat) (n S C : Nat) : Nat → Nat → sX → sX
  | 0, _, x => x
  | m + 1, i, x => cit (x.2.2.2 = 0 ∧ i < x.1.length) (sAll σ kl n S C m (i + 1) (sGo σ kl n S C i ((x.1.getD i (fun _ => 0, 0, 0)).1) S 0 x)) x
/-- THE SEARCH from the STATE a -/
noncomputable def sSr (σ : kS) (kl : List Nat) (n S C : Nat) (a : Nat → Int32) : sX := sAll σ kl n S C 600 0 (sRe σ kl S C ([], 0, 0, 0) a (-1) (-1))
end
section
/-! alike: the STATES of THE SEARCH, as both sides have them -/
def aD (a : Nat → Int32) : Nat → Int32 := fun s => a (7 * s)
def aV (a : Nat → Int32) : Nat → Int32 := fun j => nnI (a (7 * (j / 6) + 1 + j % 6))
theorem aV_at (a : Nat → Int32) {s k : Nat} (hk : k < 6) : aV a (6 * s + k) = nnI (a (7 * s + 1 + k)) := by
  show nnI (a (7 * ((6 * s + k) / 6) + 1 + (6 * s + k) % 6)) = _
  rw [show (6 * s + k) / 6 = s by omega, show (6 * s + k) % 6 = k by omega]
/-- a STATE -/
def aOk (σ : kS) (n R S : Nat) (a : Nat → Int32) : Prop := (∀ i, 7 * S ≤ i → a i = 0) ∧ cfg σ n R S (aD a) (aV a) ∧ ∀ s k, s < S → k < 6 → a (7 * s + 1 + k) = -1 ∨ ∃ z, z < n ∧ a (7 * s + 1 + k) = nI z
theorem stI_sf (σ : kS) (a : Nat → Int32) (n : Nat) : mSf σ (stI σ a) n := mSf_trans (mSf_up (c := 264) (by decide)) (mSf_up (c := 265) (by decide))
theorem aOk_Sv {σ : kS} {n b R S : Nat} {a : Nat → Int32} (h : mTb σ n b) (hR : mRo σ n R) (hS : mSe σ n R S) (ha : aOk σ n R S a) : mSv (stI σ a) n R S := cfg_Sv (σ := stI σ a) (b := b) h hR hS (cfg_sf h hR (stI_sf σ a n) ha.2.1)
theorem aOk_ho {σ : kS} {n b R S : Nat} {a : Nat → Int32} (h : mTb σ n b) (hR : mRo σ n R) (ha : aOk σ n R S a) : ∀ s, s < S → (mHo (stI σ a) s ↔ hoF (stI σ a) s) := by
  intro s hs
  have hR4 := hR.1
  obtain ⟨r, dn, r1, r2, r3, r4, r5⟩ := ha.2.1 s hs
  have hfr : fN (σ 255 s) = r := by rw [r2]; exact fN_nI (by omega)
  obtain ⟨⟨v, v6, v2⟩, -⟩ := hR.2.2.1 r r1
  have hfv : fN (σ 244 r) = v := by rw [v2]; exact fN_nI (by omega)
  have key : ∀ k, k < fN (σ 244 r) → σ 246 (6 * r + k) = 0 → aV a (6 * s + k) = σ 256 (6 * s + k) := fun k hk h0 => by
    have h2 : σ 246 (6 * r + k) ≠ nI 2 := by rw [h0]; decide
    exact ((r5 k (by omega)).1 ⟨hk, Or.inl h2⟩).2 h2
  show (∀ k, k < fN (σ 244 (fN (σ 255 s))) → σ 246 (6 * fN (σ 255 s) + k) = 0 → σ 238 (fN (aV a (6 * s + k))) ≠ 0) ↔ (∀ k, k < fN (σ 244 (fN (σ 255 s))) → σ 246 (6 * fN (σ 255 s) + k) = 0 → σ 238 (fN (σ 256 (6 * s + k))) ≠ 0)
  rw [hfr]
  exact forall_congr' (fun k => forall_congr' (fun hk => forall_congr' (fun h0 => by rw [key k hk h0])))
theorem aOk_gd {σ : kS} {n b R S s k z : Nat} {a : Nat → Int32} (h : mTb σ n b) (ha : aOk σ n R S a) (hs : s < S) (hk : k < 6) (hz : z < n) (e : a (7 * s + 1 + k) = nI z) : tgd (σ 233) (σ 234) (σ 235) z = true := by
  have hn := h.1
  obtain ⟨r, dn, r1, r2, r3, r4, r5⟩ := ha.2.1 s hs
  have ev : aV a (6 * s + k) = nI z := by rw [aV_at a hk, e, nnI_nI (by omega)]
  by_cases hb : bdv σ r dn k
  · obtain ⟨w, w1, w2, w3, -⟩ := ((r5 k hk).1 hb).1
    obtain rfl : w = z := nI_inj (w2.symm.trans ev)
    exact w3
  · have := (r5 k hk).2 hb
    rw [ev] at this
    exact absurd (show nI z < 0 by rw [this]; decide) (nI_pos (by omega))
theorem aUp_D (a : Nat → Int32) (s u : Nat) : aD (aUp a s) u = upd (aD a) s (a (7 * s) + 1) u := by
  unfold aD aUp
  by_cases e : u = s
  · subst e
    rw [pk_us, pk_us]
  · rw [pk_un (by omega), pk_un e]
theorem aUp_V (a : Nat → Int32) (s : Nat) {u k : Nat} (hk : k < 6) : aV (aUp a s) (6 * u + k) = aV a (6 * u + k) := by
  rw [aV_at _ hk, aV_at _ hk]
  unfold aUp
  rw [pk_un (by omega)]
/-- an EVENT that sends -/
theorem aOk_up {σ : kS} {n b R S s r dn : Nat} {a : Nat → Int32} (h : mTb σ n b) (hR : mRo σ n R) (ha : aOk σ n R S a) (hs : s < S) (r1 : r < R) (r2 : σ 255 s = nI r) (r3 : a (7 * s) = nI dn) (hdn : dn < fN (σ 247 r)) (hse : σ 249 (6 * r + dn) ≠ 0) : aOk σ n R S (aUp a s) ∧ stp S (aD a) (aV a) (aD (aUp a s)) (aV (aUp a s)) s := by
  obtain ⟨c1, c2⟩ := sd_cfg h hR ha.2.1 hs r1 r2 r3 hdn hse
  have e : ∀ u, u < S → aD (aUp a s) u = upd (aD a) s (nI (dn + 1)) u := fun u _ => by rw [aUp_D, r3, nI_1]
  refine ⟨⟨fun i hi => ?_, cfg_ext e (fun u k hu hk => aUp_V a s hk) c1, fun u k hu hk => ?_⟩, stp_ext (fun _ _ => rfl) (fun _ _ _ _ => rfl) e (fun u k hu hk => aUp_V a s hk) c2⟩
  · unfold aUp
    rw [pk_un (by omega)]
    exact ha.1 i hi
  · unfold aUp
    rw [pk_un (by omega)]
    exact ha.2.2 u k hu hk
theorem aSet_ne {s i : Nat} : ∀ (l : List (Nat × Nat)) (a : Nat → Int32), (∀ q ∈ l, i ≠ 7 * s + 1 + q.1) → aSet a s l i = a i
  | [], _, _ => rfl
  | q :: l, a, h => by
    show aSet (upd a (7 * s + 1 + q.1) (nI q.2)) s l i = a i
    rw [aSet_ne l _ (fun z hz => h z (List.mem_cons_of_mem _ hz)), pk_un (h q List.mem_cons_self)]
theorem aSet_at {s : Nat} : ∀ (l : List (Nat × Nat)) (a : Nat → Int32), l.Pairwise (fun x y => x.1 ≠ y.1) → ∀ q ∈ l, aSet a s l (7 * s + 1 + q.1) = nI q.2
  | [], _, _, q, hq => absurd hq List.not_mem_nil
  | z :: l, a, h, q, hq => by
    rw [List.pairwise_cons] at h
    show aSet (upd a (7 * s + 1 + z.1) (nI z.2)) s l (7 * s + 1 + q.1) = nI q.2
    rcases List.mem_cons.mp hq with rfl | hq
    · rw [aSet_ne l _ (fun w hw => by have := h.1 w hw; omega), pk_us]
    · exact aSet_at l _ h.2 q hq
theorem wyT_len (os : List (List Nat)) (w : Nat) : (wyT os w).length = os.length := by
  unfold wyT
  rw [List.length_map, List.length_zip, dg_len, List.length_map, Nat.min_self]
theorem wyT_at {os : List (List Nat)} {w j : Nat} (h : j < os.length) (h' : j < (wyT os w).length) (h2 : j < (dg (os.map List.length) w).length) : (wyT os w)[j]'h' = (os[j]'h).getD ((dg (os.map List.length) w)[j]'h2) 0 := by
  simp only [wyT, List.getElem_map, List.getElem_zip]
/-- the w-th way chooses what may stand -/
theorem wyT_in {os : List (List Nat)} {w j : Nat} (hw : w < wyN (os.map List.length)) (h : j < os.length) (h' : j < (wyT os w).length) : (wyT os w)[j]'h' ∈ os[j]'h := by
  have h2 : j < (os.map List.length).length := by rw [List.length_map]; exact h
  have := dg_lt (os.map List.length) w hw j h2
  rw [List.getElem_map] at this
  rw [wyT_at h h' (by rw [dg_len]; exact h2), List.getD_eq_getElem?_getD, List.getElem?_eq_getElem this]
  exact List.getElem_mem this
/-- what an EVENT that receives binds -/
theorem bls_ok {σ : kS} {n b R r e t : Nat} (h : mTb σ n b) (hR : mRo σ n R) (hr : r < R) (he : e < fN (σ 247 r)) (het : σ 248 (6 * r + e) = nI t) (ht : t < n) : (∀ u, u ∈ bls σ r e ↔ u ∈ tvs (σ 233) (σ 234) (σ 235) t ∧ nbv σ r e (fN (σ 241 u))) ∧ (bls σ r e).Pairwise (fun x y => x ≠ y) ∧ (∀ u ∈ bls σ r e, u < n ∧ (∃ k, k < 6 ∧ σ 241 u = nI k) ∧ ∃ so, so ≤ 3 ∧ σ 240 u = nI so) ∧ (∀ u ∈ bls σ r e, ∀ v ∈ bls σ r e, u ≠ v → σ 241 u ≠ σ 241 v) ∧ (bls σ r e).length ≤ 6 := by
  have hn := h.1
  have hft : fN (σ 248 (6 * r + e)) = t := by rw [het]; exact fN_nI (by omega)
  obtain ⟨t', t1, t2, t3, -⟩ := hR.2.2.2.2.2 r e hr he
  obtain rfl : t = t' := nI_inj (het.symm.trans t2)
  have hvar := fun u hu => mRo_var (u := u) h hR hr ht t3 hu
  have hm : ∀ u, u ∈ bls σ r e ↔ u ∈ tvs (σ 233) (σ 234) (σ 235) t ∧ nbv σ r e (fN (σ 241 u)) := fun u => by
    unfold bls
    rw [fl_mem, ddl_mem, hft]
    exact and_congr_left (fun _ => ⟨fun q => q.elim (fun q => absurd q List.not_mem_nil) id, Or.inr⟩)
  have hp : (bls σ r e).Pairwise (fun x y => x ≠ y) := fl_nd (ddl_nd _ [] List.Pairwise.nil)
  have h1 : ∀ u ∈ bls σ r e, u < n ∧ (∃ k, k < 6 ∧ σ 241 u = nI k) ∧ ∃ so, so ≤ 3 ∧ σ 240 u = nI so := fun u hu => by
    obtain ⟨k, so, u1, k6, kv, vv, kk, -, s1, s2⟩ := hvar u ((hm u).mp hu).1
    exact ⟨u1, ⟨k, k6, kk⟩, so, s1, s2⟩
  have h2 : ∀ u ∈ bls σ r e, ∀ v ∈ bls σ r e, u ≠ v → σ 241 u ≠ σ 241 v := fun u hu v hv huv ee => by
    obtain ⟨k, so, u1, k6, kv, vv, kk, -⟩ := hvar u ((hm u).mp hu).1
    obtain ⟨k', so', u1', k6', kv', vv', kk', -⟩ := hvar v ((hm v).mp hv).1
    obtain rfl : k = k' := nI_inj (by rw [← kk, ← kk', ee])
    exact huv (nI_inj (vv.symm.trans vv'))
  exact ⟨hm, hp, h1, h2, op_len hp (fun u hu => (h1 u hu).2.1) h2⟩
/-- nothing stands for it yet -/
theorem bls_neg {σ : kS} {n b R S s r dn t u : Nat} {a : Nat → Int32} (h : mTb σ n b) (hR : mRo σ n R) (ha : cfg σ n R S (aD a) (aV a)) (hs : s < S) (r1 : r < R) (r2 : σ 255 s = nI r) (r3 : a (7 * s) = nI dn) (hdn : dn < fN (σ 247 r)) (hse : σ 249 (6 * r + dn) = 0) (ht : t < n) (het : σ 248 (6 * r + dn) = nI t) (hu : u ∈ tvs (σ 233) (σ 234) (σ 235) t) : nbv σ r dn (fN (σ 241 u)) ↔ aV a (6 * s + fN (σ 241 u)) < 0 := by
  have hn := h.1
  have hR4 := hR.1
  obtain ⟨t', t1, t2, t3, -⟩ := hR.2.2.2.2.2 r dn r1 hdn
  obtain rfl : t = t' := nI_inj (het.symm.trans t2)
  obtain ⟨k, so, u1, k6, kv, vv, kk, -⟩ := mRo_var h hR r1 ht t3 hu
  rw [kk, fN_nI (by omega)]
  obtain ⟨r', dn', a1, a2, a3, a4, a5⟩ := ha s hs
  obtain rfl : r = r' := nI_inj (r2.symm.trans a2)
  have he6 : fN (σ 247 r) ≤ 6 := by
    obtain ⟨-, e, e1, e2⟩ := hR.2.2.1 r r1
    rw [e2, fN_nI (by omega)]
    exact e1
  obtain rfl : dn = dn' := nI_inj (r3.symm.trans a3)
  refine ⟨fun q => ?_, fun q => ⟨?_, fun hb => (mVz_ne h ((a5 k k6).1 hb).1).2 q⟩⟩
  · rw [(a5 k k6).2 q.2]
    decide
  · refine bdv_ev h hR r1 (Nat.lt_succ_self dn) hdn ?_ kk k6
    rw [het, fN_nI (by omega)]
    exact hu
noncomputable def owO (σ : kS) (n r e : Nat) : List (List Nat) := (bls σ r e).map (fun u => opL σ (fN (σ 240 u)) n)
noncomputable def owP (σ : kS) (r e : Nat) : List Nat := (bls σ r e).map (fun u => fN (σ 241 u))
/-- the STATE behind the way w of an EVENT that receives -/
noncomputable def aWy (σ : kS) (n r e s : Nat) (a : Nat → Int32) (w : Nat) : Nat → Int32 := aSet (aUp a s) s ((owP σ r e).zip (wyT (owO σ n r e) w))
theorem ow_len (σ : kS) (n r e w : Nat) : (owP σ r e).length = (bls σ r e).length ∧ (owO σ n r e).length = (bls σ r e).length ∧ (wyT (owO σ n r e) w).length = (bls σ r e).length := by
  refine ⟨by unfold owP; rw [List.length_map], by unfold owO; rw [List.length_map], ?_⟩
  rw [wyT_len]
  unfold owO
  rw [List.length_map]
theorem aWy_ne {σ : kS} {n r e s w i : Nat} {a : Nat → Int32} (h : ∀ u ∈ bls σ r e, i ≠ 7 * s + 1 + fN (σ 241 u)) : aWy σ n r e s a w i = aUp a s i := aSet_ne _ _ (fun q hq => by
  have := (List.of_mem_zip hq).1
  unfold owP at this
  obtain ⟨u, u1, u2⟩ := List.mem_map.mp this
  rw [← u2]
  exact h u u1)
theorem ow_pw {σ : kS} {n b R r e t : Nat} (h : mTb σ n b) (hR : mRo σ n R) (hr : r < R) (he : e < fN (σ 247 r)) (het : σ 248 (6 * r + e) = nI t) (ht : t < n) : (owP σ r e).Pairwise (fun x y => x ≠ y) := by
  obtain ⟨-, h2, h3, h4, -⟩ := bls_ok h hR hr he het ht
  unfold owP
  rw [List.pairwise_map]
  refine List.Pairwise.imp_of_mem (fun {x y} hx hy hxy ee => ?_) h2
  obtain ⟨-, ⟨k, k1, k2⟩, -⟩ := h3 x hx
  obtain ⟨-, ⟨k', k1', k2'⟩, -⟩ := h3 y hy
  rw [k2, k2', fN_nI (by omega), fN_nI (by omega)] at ee
  exact h4 x hx y hy hxy (by rw [k2, k2', ee])
theorem zip_pw {l : List Nat} : ∀ {l' : List Nat}, l.Pairwise (fun x y => x ≠ y) → (l.zip l').Pairwise (fun x y => x.1 ≠ y.1) := by
  induction l with
  | nil => intro l' _; rw [List.zip_nil_left]; exact List.Pairwise.nil
  | cons x l ih =>
    intro l' h
    rw [List.pairwise_cons] at h
    cases l' with
    | nil => rw [List.zip_nil_right]; exact List.Pairwise.nil
    | cons y l' =>
      rw [List.zip_cons_cons, List.pairwise_cons]
      exact ⟨fun q hq => h.1 q.1 (List.of_mem_zip hq).1, ih h.2⟩
theorem aWy_at {σ : kS} {n s w r e j : Nat} {a : Nat → Int32} (hp : (owP σ r e).Pairwise (fun x y => x ≠ y)) (hj : j < (bls σ r e).length) (hj' : j < (wyT (owO σ n r e) w).length) : aWy σ n r e s a w (7 * s + 1 + fN (σ 241 ((bls σ r e)[j]'hj))) = nI ((wyT (owO σ n r e) w)[j]'hj') := by
  have l1 := ow_len σ n r e w
  have hz : j < ((owP σ r e).zip (wyT (owO σ n r e) w)).length := by rw [List.length_zip]; omega
  have := aSet_at (s := s) _ (aUp a s) (zip_pw (l' := wyT (owO σ n r e) w) hp) _ (List.getElem_mem hz)
  rw [List.getElem_zip] at this
  have e1 : (owP σ r e)[j]'(by omega) = fN (σ 241 ((bls σ r e)[j]'hj)) := by
    simp only [owP, List.getElem_map]
  rw [e1] at this
  exact this
/-- an EVENT that receives -/
theorem aOk_way {σ : kS} {n b R S s r dn t w : Nat} {a : Nat → Int32} (h : mTb σ n b) (hR : mRo σ n R) (ha : aOk σ n R S a) (hs : s < S) (r1 : r < R) (r2 : σ 255 s = nI r) (r3 : a (7 * s) = nI dn) (hdn : dn < fN (σ 247 r)) (hse : σ 249 (6 * r + dn) = 0) (ht : t < n) (het : σ 248 (6 * r + dn) = nI t) (hw : w < wyN ((owO σ n r dn).map List.length)) :
    aOk σ n R S (aWy σ n r dn s a w) ∧ stp S (aD a) (aV a) (aD (aWy σ n r dn s a w)) (aV (aWy σ n r dn s a w)) s ∧ ∀ u ∈ tvs (σ 233) (σ 234) (σ 235) t, ∃ p z, p < 6 ∧ z < n ∧ σ 241 u = nI p ∧ aV (aWy σ n r dn s a w) (6 * s + p) = nI z ∧ tgd (σ 233) (σ 234) (σ 235) z = true ∧ (σ 240 u = nI 0 → σ 233 z = nI 0) := by
  have hn := h.1
  obtain ⟨b1, b2, b3, b4, b5⟩ := bls_ok h hR r1 hdn het ht
  have hp := ow_pw h hR r1 hdn het ht
  obtain ⟨l1, l2, l3⟩ := ow_len σ n r dn w
  have hc : ∀ p (hp : p < (bls σ r dn).length), (wyT (owO σ n r dn) w).getD p 0 = (wyT (owO σ n r dn) w)[p]'(by omega) := fun p hp => by
    rw [List.getD_eq_getElem?_getD, List.getElem?_eq_getElem (by omega)]
    rfl
  have hin : ∀ p (hp : p < (bls σ r dn).length), (wyT (owO σ n r dn) w).getD p 0 < n ∧ ofs σ (bls σ r dn)[p] ((wyT (owO σ n r dn) w).getD p 0) := fun p hp => by
    have h1 := wyT_in hw (j := p) (by omega) (by omega)
    rw [← hc p hp] at h1
    have e1 : (owO σ n r dn)[p]'(by omega) = opL σ (fN (σ 240 ((bls σ r dn)[p]'hp))) n := by
      simp only [owO, List.getElem_map]
    rw [e1, opL_mem] at h1
    obtain ⟨-, -, so, s1, s2⟩ := b3 _ (List.getElem_mem hp)
    refine ⟨h1.1, h1.2.1, ?_⟩
    have h2 := h1.2.2
    rw [s2, fN_nI (by omega)] at h2
    rw [s2]
    rcases h2 with q | q
    · exact Or.inl (by rw [q])
    · exact Or.inr q
  have hfk : ∀ u ∈ bls σ r dn, fN (σ 241 u) < 6 := fun u hu => by
    obtain ⟨-, ⟨k, k1, k2⟩, -⟩ := b3 u hu
    rw [k2, fN_nI (by omega)]
    exact k1
  have hV1 : ∀ p (hp : p < (bls σ r dn).length), aV (aWy σ n r dn s a w) (6 * s + fN (σ 241 (bls σ r dn)[p])) = nI ((wyT (owO σ n r dn) w).getD p 0) := fun p hp' => by
    have := (hin p hp').1
    rw [aV_at _ (hfk _ (List.getElem_mem hp')), aWy_at hp hp' (by omega), ← hc p hp', nnI_nI (by omega)]
  have hV2 : ∀ u k, u < S → k < 6 → (∀ p (h : p < (bls σ r dn).length), 6 * u + k ≠ 6 * s + fN (σ 241 (bls σ r dn)[p])) → aV (aWy σ n r dn s a w) (6 * u + k) = aV a (6 * u + k) := fun u k hu hk hne => by
    rw [aV_at _ hk, aWy_ne (fun v hv => ?_), ← aV_at _ hk, aUp_V a s hk]
    obtain ⟨p, hp', rfl⟩ := List.getElem_of_mem hv
    have := hne p hp'
    have := hfk _ hv
    omega
  obtain ⟨c1, c2, c3⟩ := rc_cfg (c := fun p => (wyT (owO σ n r dn) w).getD p 0) (D := aD a) (W := aV a) (V := aV (aWy σ n r dn s a w)) (op := bls σ r dn) h hR ha.2.1 hs r1 r2 r3 hdn hse ht het (fun u => by
    rw [b1 u]
    exact and_congr_right (fun hu => bls_neg h hR ha.2.1 hs r1 r2 r3 hdn hse ht het hu)) hin hV1 hV2
  have hD : ∀ u, u < S → aD (aWy σ n r dn s a w) u = upd (aD a) s (nI (dn + 1)) u := fun u hu => by
    have e : aWy σ n r dn s a w (7 * u) = aUp a s (7 * u) := aWy_ne (fun v hv => by have := hfk v hv; omega)
    show aWy σ n r dn s a w (7 * u) = _
    rw [e]
    have := aUp_D a s u
    rw [r3, nI_1] at this
    exact this
  refine ⟨⟨fun i hi => ?_, cfg_ext hD (fun _ _ _ _ => rfl) c1, fun u k hu hk => ?_⟩, stp_ext (fun _ _ => rfl) (fun _ _ _ _ => rfl) hD (fun _ _ _ _ => rfl) c2, c3⟩
  · rw [aWy_ne (fun v hv => by have := hfk v hv; omega)]
    unfold aUp
    rw [pk_un (by omega)]
    exact ha.1 i hi
  · by_cases e : ∀ v ∈ bls σ r dn, 7 * u + 1 + k ≠ 7 * s + 1 + fN (σ 241 v)
    · rw [aWy_ne e]
      unfold aUp
      rw [pk_un (by omega)]
      exact ha.2.2 u k hu hk
    · obtain ⟨v, hv, e⟩ : ∃ v ∈ bls σ r dn, 7 * u + 1 + k = 7 * s + 1 + fN (σ 241 v) := Classical.byContradiction (fun q => e (fun v hv e => q ⟨v, hv, e⟩))
      obtain ⟨p, hp', rfl⟩ := List.getElem_of_mem hv
      rw [e, aWy_at hp hp' (by omega), ← hc p hp']
      exact Or.inr ⟨_, (hin p hp').1, rfl⟩
end
section
/-! alike: a STATE's row and claims, from another place -/
def sxC : List Nat := [241, 249, 248, 255, 238, 244, 246, 247, 257, 258, 259, 260, 261, 262, 263]
theorem tin_cg {σ τ : kS} {n b s : Nat} (h : mTb σ n b) (hF2 : ∀ u, u < n → τ 233 u = σ 233 u ∧ τ 234 u = σ 234 u ∧ τ 235 u = σ 235 u) (ho : τ 241 = σ 241) : ∀ t, t < n → (∀ u ∈ tvs (σ 233) (σ 234) (σ 235) t, ∃ p z, p < 6 ∧ z < n ∧ σ 241 u = nI p ∧ σ 265 (6 * s + p) = nI z ∧ τ 265 (6 * s + p) = nI z) → tin τ s t = tin σ s t := by
  have hn := h.1
  have hV := mTb_num h
  have hV' : ∀ t, t < n → t < 100000 ∧ tOk (fun u => u < n) (mAG σ n) (τ 233) (τ 234) (τ 235) t := fun t ht => by
    obtain ⟨e1, e2, e3⟩ := hF2 t ht
    exact ⟨(hV t ht).1, tOk_mono (fun _ _ q => q) (fun _ _ q => q) e1 e2 e3 (hV t ht).2⟩
  intro t
  induction t using Nat.strongRecOn with
  | _ t ih =>
    intro ht hst
    obtain ⟨e1, e2, e3⟩ := hF2 t ht
    rcases (hV t ht).2 with ⟨k, h3, hk, -, -⟩ | ⟨k, x, y, h3, hk, hx, hy, h4, h5, h6, h7⟩ | ⟨k, x, h3, hk, hx, hy, h4, h6⟩
    · unfold tin
      rw [tA_0 (e1.trans hk) h3, tA_0 hk h3, e1]
      by_cases hk3 : σ 233 t = nI 3
      · rw [if_pos hk3, if_pos hk3]
        have hu : t ∈ tvs (σ 233) (σ 234) (σ 235) t := by
          unfold tvs
          rw [tA_0 hk h3, if_pos hk3]
          exact List.mem_singleton.mpr rfl
        obtain ⟨p, z, hp, hz, a1, a2, a3⟩ := hst t hu
        have ev : mVl τ s t = z := by
          unfold mVl
          rw [ho, a1, fN_nI (by omega), a3, fN_nI (by omega)]
        have ev' : mVl σ s t = z := by
          unfold mVl
          rw [a1, fN_nI (by omega), a2, fN_nI (by omega)]
        rw [ev, ev']
        exact tA_congr hV (fun w hw => ⟨(hF2 w hw).1, (hF2 w hw).2.1, (hF2 w hw).2.2, rfl⟩) z hz
      · rw [if_neg hk3, if_neg hk3]
    · have evs : tvs (σ 233) (σ 234) (σ 235) t = tvs (σ 233) (σ 234) (σ 235) x ++ tvs (σ 233) (σ 234) (σ 235) y := tA_2 hV hk hx hy (by omega) (by omega) h4 h5 h6 h7
      have e4 : tin τ s t = vnd k (tin τ s x) (some (tin τ s y)) := tA_2 hV' (e1.trans hk) (e2.trans hx) (e3.trans hy) (by omega) (by omega) h4 h5 h6 h7
      have e5 : tin σ s t = vnd k (tin σ s x) (some (tin σ s y)) := tA_2 hV hk hx hy (by omega) (by omega) h4 h5 h6 h7
      rw [e4, e5, ih x h4 h6 (fun u hu => hst u (by rw [evs]; exact List.mem_append_left _ hu)), ih y h5 h7 (fun u hu => hst u (by rw [evs]; exact List.mem_append_right _ hu))]
    · have evs : tvs (σ 233) (σ 234) (σ 235) t = tvs (σ 233) (σ 234) (σ 235) x ++ [] := tA_1 hV hk hx hy (by omega) (by omega) h4 h6
      have e4 : tin τ s t = vnd k (tin τ s x) none := tA_1 hV' (e1.trans hk) (e2.trans hx) (e3.trans hy) (by omega) (by omega) h4 h6
      have e5 : tin σ s t = vnd k (tin σ s x) none := tA_1 hV hk hx hy (by omega) (by omega) h4 h6
      rw [e4, e5, ih x h4 h6 (fun u hu => hst u (by rw [evs]; exact List.mem_append_left _ hu))]
theorem mA_cg {σ τ : kS} (hk : ∀ u, u < 200 → τ 233 u = σ 233 u ∧ τ 234 u = σ 234 u ∧ τ 235 u = σ 235 u) : mA τ = mA σ := by
  funext t
  unfold mA
  by_cases q : t < 200
  · rw [(hk t q).1]
  · exact propext ⟨fun z => absurd z.1 q, fun z => absurd z.1 q⟩
theorem trKn_cg {σ τ : kS} {n b : Nat} {kl : List Nat} (h : mTb σ n b) (hK : mKn σ n kl) (hk : ∀ u, u < 200 → τ 233 u = σ 233 u ∧ τ 234 u = σ 234 u ∧ τ 235 u = σ 235 u) : trKn τ kl = trKn σ kl := by
  have hn := h.1
  unfold trKn
  refine fold_congr kl [] (fun t ht a => ?_)
  have : tvl (τ 233) (τ 234) (τ 235) t = tvl (σ 233) (σ 234) (σ 235) t := tA_congr (mTb_num h) (fun w hw => ⟨(hk w (by omega)).1, (hk w (by omega)).2.1, (hk w (by omega)).2.2, rfl⟩) t (hK.2.2.2 t ht).1
  rw [this]
theorem trSe_cg {σ τ : kS} {n b R S s : Nat} (h : mTb σ n b) (hR : mRo σ n R) (hS : mSv σ n R S) (hk : ∀ u, u < 200 → τ 233 u = σ 233 u ∧ τ 234 u = σ 234 u ∧ τ 235 u = σ 235 u) (e : eqC σ τ sxC) (hv : ∀ k, k < 6 → σ 265 (6 * s + k) ≠ -6 → τ 265 (6 * s + k) = σ 265 (6 * s + k)) (hs : s < S) (tr : trT) : ∀ c, c ≤ fN (σ 264 s) → trSe τ s tr c = trSe σ s tr c := by
  have hn := h.1
  have hR4 := hR.1
  intro c
  obtain ⟨r, r1, r2, r3, r4, -, r6, -⟩ := hS.2 s hs
  induction c with
  | zero => intro _; rfl
  | succ c ih =>
    intro hc
    have hst := r6 c (by omega)
    obtain ⟨t, t1, t2, -⟩ := hR.2.2.2.2.2 r c r1 (by omega)
    have hme : mEv σ s c = 6 * r + c := by
      unfold mEv
      rw [r2, fN_nI (by omega)]
    have hme2 : mEv τ s c = 6 * r + c := by
      unfold mEv
      rw [e 255 (by decide), r2, fN_nI (by omega)]
    rw [trSe, trSe, ih (by omega), hme2, hme, e 249 (by decide), e 248 (by decide)]
    rw [t2, fN_nI (by omega)] at hst ⊢
    rw [tin_cg h (fun u hu => hk u (by omega)) (e 241 (by decide)) t t1 (fun u hu => ?_)]
    obtain ⟨p, z, p1, p2, p3, p4, -⟩ := hst u hu
    refine ⟨p, z, p1, p2, p3, p4, ?_⟩
    rw [hv p p1 (by rw [p4]; exact fun q => absurd (show nI z < 0 by rw [q]; decide) (nI_pos (by omega)))]
    exact p4
theorem trSs_cg {σ τ : kS} {n b R S : Nat} (h : mTb σ n b) (hR : mRo σ n R) (hS : mSv σ n R S) (hk : ∀ u, u < 200 → τ 233 u = σ 233 u ∧ τ 234 u = σ 234 u ∧ τ 235 u = σ 235 u) (e : eqC σ τ sxC) (hd : ∀ s, s < S → τ 264 s = σ 264 s ∨ (τ 264 s = σ 264 s + 1 ∧ σ 249 (mEv σ s (fN (σ 264 s))) = 0)) (hv : ∀ s k, s < S → k < 6 → σ 265 (6 * s + k) ≠ -6 → τ 265 (6 * s + k) = σ 265 (6 * s + k)) (tr : trT) : ∀ s, s ≤ S → trSs τ tr s = trSs σ tr s := by
  intro s
  induction s with
  | zero => intro _; rfl
  | succ s ih =>
    intro hs
    have hs' : s < S := hs
    have hR4 := hR.1
    have h2 := fun tr => trSe_cg h hR hS hk e (hv s · hs') hs' tr
    obtain ⟨r, r1, r2, r3, r4, -⟩ := hS.2 s hs'
    obtain ⟨-, ev, ev6, ev2⟩ := hR.2.2.1 r r1
    rw [ev2, fN_nI (by omega)] at r4
    have hd := hd s hs'
    have hmev : mEv τ s (fN (σ 264 s)) = mEv σ s (fN (σ 264 s)) := by
      unfold mEv
      rw [e 255 (by decide)]
    have es := e 249 (by decide)
    generalize fN (σ 264 s) = dn at *
    have e1 : trSs τ tr (s + 1) = trSe τ s (trSs σ tr s) (fN (τ 264 s)) := by
      rw [trSs, ih (by omega)]
    have e2 : trSs σ tr (s + 1) = trSe σ s (trSs σ tr s) dn := by
      rw [trSs, r3, fN_nI (by omega)]
    rw [e1, e2]
    rcases hd with q | ⟨q1, q2⟩
    · rw [q, r3, fN_nI (by omega)]
      exact h2 _ _ (Nat.le_refl _)
    · have e3 : fN (τ 264 s) = dn + 1 := by
        rw [q1, r3, nI_1]
        exact fN_nI (by omega)
      rw [e3, trSe, hmev, es, cit_F (fun z => z q2)]
      exact h2 _ _ (Nat.le_refl _)
theorem trSt_cg {σ τ : kS} {n b R S : Nat} {kl : List Nat} (h : mTb σ n b) (hR : mRo σ n R) (hK : mKn σ n kl) (hS : mSv σ n R S) (hk : ∀ u, u < 200 → τ 233 u = σ 233 u ∧ τ 234 u = σ 234 u ∧ τ 235 u = σ 235 u) (e : eqC σ τ sxC) (hd : ∀ s, s < S → τ 264 s = σ 264 s ∨ (τ 264 s = σ 264 s + 1 ∧ σ 249 (mEv σ s (fN (σ 264 s))) = 0)) (hv : ∀ s k, s < S → k < 6 → σ 265 (6 * s + k) ≠ -6 → τ 265 (6 * s + k) = σ 265 (6 * s + k)) : trSt τ kl S = trSt σ kl S := by
  unfold trSt
  rw [trKn_cg h hK hk, trSs_cg h hR hS hk e hd hv _ S (Nat.le_refl _), mA_cg hk, e 238 (by decide)]
theorem mBt_cg {σ τ : kS} {tr : trT} {n b R S C c : Nat} (h : mTb σ n b) (hR : mRo σ n R) (hC : mCl σ R C) (hc : c < C) (hS : mSv σ n R S) (hk : ∀ u, u < 200 → τ 233 u = σ 233 u ∧ τ 234 u = σ 234 u ∧ τ 235 u = σ 235 u) (e : eqC σ τ sxC) (hd : ∀ s, s < S → τ 264 s = σ 264 s) (hv : ∀ s k, s < S → k < 6 → τ 265 (6 * s + k) = σ 265 (6 * s + k)) : mBt τ tr c S ↔ mBt σ tr c S := by
  have hn := h.1
  have hR4 := hR.1
  obtain ⟨bb, aa, nn, j, x1, x2, x3, x4, x5, x6, x7, x8, x9, x10⟩ := hC.2.2 c hc
  have hv6 : ∀ r, r < R → fN (σ 244 r) ≤ 6 := fun r hr => by
    obtain ⟨⟨v, h1, h2⟩, -⟩ := hR.2.2.1 r hr
    rw [h2, fN_nI (by omega)]
    exact h1
  have hmH : ∀ s, s < S → (mHo τ s ↔ mHo σ s) := fun s hs => by
    obtain ⟨r, r1, r2, -⟩ := hS.2 s hs
    have := hv6 r r1
    unfold mHo
    rw [e 244 (by decide), e 255 (by decide), e 246 (by decide), e 238 (by decide), r2, fN_nI (by omega)]
    exact forall_congr' (fun k => forall_congr' (fun hk => by rw [hv s k hs (by omega)]))
  have htv : ∀ t, t < n → tvl (τ 233) (τ 234) (τ 235) t = tvl (σ 233) (σ 234) (σ 235) t := fun t ht => tA_congr (mTb_num h) (fun w hw => ⟨(hk w (by omega)).1, (hk w (by omega)).2.1, (hk w (by omega)).2.2, rfl⟩) t ht
  have htM : ∀ g, trM τ tr g = trM σ tr g := fun g => by
    unfold trM
    rw [mA_cg hk, e 238 (by decide)]
  unfold mBt
  rw [e 257 (by decide), e 258 (by decide), e 259 (by decide), e 255 (by decide)]
  refine or_congr (and_congr_right (fun hsec => exists_congr (fun s => and_congr_right (fun hs => and_congr_right (fun _ => ?_))))) (and_congr_right (fun hsec => not_congr (cPn_congr (fun s hs => ?_) (fun s p hs hp hps => ?_))))
  · have ha6 : aa < 6 := by
      have := x4 hsec
      have := hv6 bb x1
      omega
    have hfa : fN (σ 259 c) = aa := by rw [x3]; exact fN_nI (by omega)
    rw [hfa, hv s aa hs ha6, hmH s hs]
    rcases mSv_val hS hs ha6 with q | ⟨z, z1, z2, -⟩
    · rw [q]
      exact ⟨fun w => absurd (by decide) w.1, fun w => absurd (by decide) w.1⟩
    · rw [z2, fN_nI (by omega), htv z z1, htM]
  · unfold mWt
    rw [hmH s hs, e 255 (by decide), e 258 (by decide), e 247 (by decide), hd s hs]
  · have haR := x5 hsec
    unfold mFit
    rw [e 255 (by decide), e 259 (by decide), e 260 (by decide), e 261 (by decide), hd p hp]
    refine and_congr_right (fun _ => ?_)
    refine forall_congr' (fun k => forall_congr' (fun hk => ?_))
    rw [x9, fN_nI (by omega)] at hk
    obtain ⟨bx, ay, q1, q2, q3, q4, q5⟩ := x10 k hk
    have h6b := hv6 bb x1
    have h6a := hv6 aa haR
    unfold mJn
    rw [e 262 (by decide), e 263 (by decide), q4, q5, fN_nI (by omega), fN_nI (by omega), hv s bx hs (by omega), hv p ay hp (by omega)]
end
