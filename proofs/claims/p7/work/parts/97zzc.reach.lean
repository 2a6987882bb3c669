/-! the class: reach -/
set_option maxRecDepth 100000 in
set_option maxHeartbeats 4000000 in
theorem mc_allDone (L : Nat) (xs : Nat → Int32) (d : Nat) (σ : kS) (n R S C A M base : Nat) (g0 : Nat → Int32) (hB : cB σ n R S C) (hA : kT[A]? = some (.inl (0, M, .inl g0))) (hM : M ≤ 100000) (hbm : base + 28 ≤ M) : kXM kT L xs (d + 3) 20 [.ref 13, .ref A, .int (nI base)] σ (fun q σ' => (q = some (.int 0) ∨ q = some (.int 1)) ∧ σ = σ') := by
  obtain ⟨hRo, ⟨hS4, hSc, hSr⟩, -⟩ := hB
  have loop : ∀ q : Nat, q ≤ S → kX kT L xs (d + 3) 20 2 [(3, .int (nI q)), (0, .ref 13), (1, .ref A), (2, .int (nI base))] [] σ (fun q σ' => (q = some (.int 0) ∨ q = some (.int 1)) ∧ σ = σ') := by
    refine kX_while (fun q => [(3, .int (nI q)), (0, .ref 13), (1, .ref A), (2, .int (nI base))]) (fun _ => σ) _ (fun q => S - q) ?_
    intro i i1 ih
    iterate 3 (refine kX_one rfl ?_)
    refine kX_top (hSc) ?_
    repeat refine kX_one rfl ?_
    refine kX_if (fun q => ?_) (fun q => ?_)
    · repeat refine kX_one rfl ?_
      refine kX_ret (i := .ireturn) (len := 1) rfl (Or.inr rfl) rfl (⟨Or.inr rfl, rfl⟩)
    · have q := qgeF q i S
      iterate 4 (refine kX_one rfl ?_)
      refine kX_cal (mc_hasDoneAll L xs d σ n R S A M base i g0 hRo hS4 hSr q hA hM hbm) rfl (Or.inr rfl) rfl rfl rfl (fun r1 σ1 q1 => ?_)
      obtain ⟨hq, rfl⟩ := q1
      rcases hq with rfl | rfl
      · repeat refine kX_one rfl ?_
        refine kX_ret (i := .ireturn) (len := 1) rfl (Or.inr rfl) rfl (⟨Or.inl rfl, rfl⟩)
      · iterate 3 (refine kX_one rfl ?_)
        have := ih (i + 1) (by omega) (by omega)
        rw [← nI_1] at this
        exact kX_lv _ rfl rfl rfl this
  unfold kXM
  iterate 2 (refine kX_one rfl ?_)
  exact kX_lv _ rfl rfl rfl (loop 0 (Nat.zero_le _))
set_option maxRecDepth 100000 in
set_option maxHeartbeats 4000000 in
theorem mc_hasSecrets (L : Nat) (xs : Nat → Int32) (d : Nat) (σ : kS) (C : Nat) (hC : cCl σ C) : kXM kT L xs (d + 1) 23 [.ref 13] σ (fun q σ' => (q = some (.int 0) ∨ q = some (.int 1)) ∧ σ = σ') := by
  obtain ⟨hC6, hCc, -⟩ := hC
  have loop : ∀ q : Nat, q ≤ C → kX kT L xs (d + 1) 23 2 [(1, .int (nI q)), (0, .ref 13)] [] σ (fun q σ' => (q = some (.int 0) ∨ q = some (.int 1)) ∧ σ = σ') := by
    refine kX_while (fun q => [(1, .int (nI q)), (0, .ref 13)]) (fun _ => σ) _ (fun q => C - q) ?_
    intro i i1 ih
    iterate 3 (refine kX_one rfl ?_)
    refine kX_top (hCc) ?_
    repeat refine kX_one rfl ?_
    refine kX_if (fun q => ?_) (fun q => ?_)
    · repeat refine kX_one rfl ?_
      refine kX_ret (i := .ireturn) (len := 1) rfl (Or.inr rfl) rfl (⟨Or.inl rfl, rfl⟩)
    · have q := qgeF q i C
      have hi6 : i < 6 := by omega
      iterate 3 (refine kX_one rfl ?_)
      refine kX_aaldN rfl (rfl) (by decide) (by decide) (by decide) (i) (by first | rfl | decide) (hi6) (cl_at hi6) ?_
      refine kX_getN rfl rfl (kT_cl hi6) rfl ?_
      repeat refine kX_one rfl ?_
      refine kX_if (fun q2 => ?_) (fun q2 => ?_)
      · iterate 2 (refine kX_one rfl ?_)
        have := ih (i + 1) (by omega) (by omega)
        rw [← nI_1] at this
        exact kX_lv _ rfl rfl rfl this
      · repeat refine kX_one rfl ?_
        refine kX_ret (i := .ireturn) (len := 1) rfl (Or.inr rfl) rfl (⟨Or.inr rfl, rfl⟩)
  unfold kXM
  iterate 2 (refine kX_one rfl ?_)
  exact kX_lv _ rfl rfl rfl (loop 0 (Nat.zero_le _))
theorem cB_sI {σ τ : kS} {n R S C N : Nat} (h : cJ σ n R S C) (hs : sI σ τ n S N) : cB τ n R S C := cB_eq (fun c c1 c2 => sF_13 hs.1 c c1 (by omega)) (cB_of h)
/-- the STATE is new -/
theorem sI_add {σ τ ω : kS} {n S N : Nat} {f s : Int32} (h : sI σ τ n S N) (hV : cV τ n S (τ 202) 0) (hA : stA τ ω N f s) (hN : N < 600) (hfs : 0 < N → (∃ j, j < N ∧ f = nI j) ∧ ∃ s', s' < S ∧ s = nI s') (hS4 : S ≤ 4) : sI σ ω n S (N + 1) := by
  obtain ⟨h1, h2, h3, h4, h5, h6⟩ := h
  obtain ⟨a1, a2, a3, a4, a5⟩ := hA
  have hg : ∀ z, z < n → ω 8 z = τ 8 z := fun z _ => by rw [a1 _ (by decide)]
  have hgt : ∀ g, 200 ≤ g → ω 2 g = τ 2 g ∧ ω 3 g = τ 3 g ∧ ω 4 g = τ 4 g ∧ ω 6 g = τ 6 g := fun g _ => by
    rw [a1 2 (by decide), a1 3 (by decide), a1 4 (by decide), a1 6 (by decide)]
    exact ⟨rfl, rfl, rfl, rfl⟩
  refine ⟨sF_trans h1 (sF_of (fun c hc => a1 c (by omega))), cKw_eq (by decide) (a1 _ (by decide)) (a1 _ (by decide)) (a1 _ (by decide)) hgt h2, cKw_eq (by decide) (a1 _ (by decide)) (a1 _ (by decide)) (a1 _ (by decide)) hgt h3, ?_, cQ_eq (a1 _ (by decide)) (a1 _ (by decide)) h5, cO_eq hg (fun c c1 c2 => a1 c (by omega)) h6⟩
  obtain ⟨b1, b2, b3, b4, b5⟩ := h4
  refine ⟨by omega, a5, fun i hi => ?_, fun i i1 i2 => ?_, ?_⟩
  · by_cases e : i = N
    · subst e
      intro s' k hs' hk
      have := hV s' k hs' hk
      rw [a2, va_cpy, if_pos (by omega), show 0 + (28 * i + 7 * s' + 1 + k - 28 * i) = 0 + 7 * s' + 1 + k by omega]
      rcases this with q | ⟨z, z1, z2, z3⟩
      · exact Or.inl q
      · exact Or.inr ⟨z, z1, z2, by rw [hg z z1]; exact z3⟩
    · have := cV_eq hg (b3 i (by omega))
      intro s' k hs' hk
      rw [a2, va_cpy, if_neg (by omega)]
      exact this s' k hs' hk
  · rw [a3, a4]
    by_cases e : i = N
    · subst e
      rw [pk_us, pk_us]
      exact hfs i1
    · rw [pk_un e, pk_un e]
      exact b4 i i1 (by omega)
  · rw [a1 195 (by decide), a1 203 (by decide)]
    rcases b5 with q | ⟨q, z⟩
    · exact Or.inl q
    · exact Or.inr ⟨by omega, z⟩
/-- what reach keeps -/
def reP (τ ω : kS) : Prop := ω 202 = τ 202 ∧ ∀ c, 222 ≤ c → ω c = τ c
set_option maxRecDepth 100000 in
set_option maxHeartbeats 4000000 in
theorem mc_reach (L : Nat) (xs : Nat → Int32) (d : Nat) (σ τ : kS) (n R S C N K st : Nat) (f s : Int32) (h : cJ σ n R S C) (hI : sI σ τ n S N) (hV : cV τ n S (τ 202) 0) (hfs : 0 < N → (∃ j, j < N ∧ f = nI j) ∧ ∃ s', s' < S ∧ s = nI s') (hK : (K = 204 ∧ st = 776) ∨ (K = 213 ∧ st = 1352)) : kXM kT L xs (d + 54) 84 [.ref 195, .int f, .int s, .ref K] τ (fun r ω => r = none ∧ reP τ ω ∧ ∃ N', N ≤ N' ∧ sI σ ω n S N') := by
  have hS4 := h.2.2.1.1
  have hT := h.1
  have hK' : isK K st := Or.inr hK
  obtain ⟨c1, c2, c3, c4, c5⟩ := hI.2.2.2.1
  unfold kXM
  iterate 3 (refine kX_one rfl ?_)
  refine kX_top (c2) ?_
  repeat refine kX_one rfl ?_
  refine kX_if (fun q => ?_) (fun q => ?_)
  · have q := qlt q N 600
    iterate 8 (refine kX_one rfl ?_)
    refine kX_cal (mc_stAdd L xs (d + 51) τ _ f s N q c2) rfl (Or.inr rfl) rfl rfl rfl (fun r1 τ1 q1 => ?_)
    obtain ⟨rfl, hA⟩ := q1
    have hI1 := sI_add hI hV hA q hfs hS4
    have hP1 : reP τ τ1 := ⟨hA.1 202 (by decide), fun c hc => hA.1 c (by omega)⟩
    have loop : ∀ q : Nat × kS, (q.1 ≤ C ∧ sI σ q.2 n S (N + 1) ∧ reP τ q.2) → kX kT L xs (d + 54) 84 65 [(4, .int (nI q.1)), (0, .ref 195), (3, .ref K)] [] q.2 (fun r ω => r = none ∧ reP τ ω ∧ ∃ N', N ≤ N' ∧ sI σ ω n S N') := by
      refine kX_while (fun q : Nat × kS => [(4, .int (nI q.1)), (0, .ref 195), (3, .ref K)]) (fun q => q.2) _ (fun q => C - q.1) ?_
      rintro ⟨i, ω⟩ ⟨i1, i2, i3⟩ ih
      dsimp only at i1 i2 i3 ih ⊢
      have hBt := cB_sI h i2
      have hC6 := hBt.2.2.1
      iterate 4 (refine kX_one rfl ?_)
      refine kX_top (hBt.2.2.2.1) ?_
      repeat refine kX_one rfl ?_
      refine kX_if (fun q => ?_) (fun q => ?_)
      · refine kX_ret (i := .return_) (len := 1) rfl (Or.inr rfl) rfl (⟨rfl, i3, N + 1, by omega, i2⟩)
      · have q := qgeF q i C
        repeat refine kX_one rfl ?_
        refine kX_if (fun q2 => ?_) (fun q2 => ?_)
        · refine kX_ret (i := .return_) (len := 1) rfl (Or.inr rfl) rfl (⟨rfl, i3, N + 1, by omega, i2⟩)
        · have hTo := cT_sF i2.1 hT
          have hkw : cKw ω K st := by
            rcases hK with ⟨rfl, rfl⟩ | ⟨rfl, rfl⟩
            · exact i2.2.1
            · exact i2.2.2.1
          obtain ⟨u, hB, hR, he⟩ := cKw_n hK' hTo hkw
          have k123 : ∀ ρ, sI σ ρ n S (N + 1) → reP τ ρ → kX kT L xs (d + 54) 84 123 [(4, .int (nI i)), (0, .ref 195), (3, .ref K)] [] ρ (fun r ω => r = none ∧ reP τ ω ∧ ∃ N', N ≤ N' ∧ sI σ ω n S N') := by
            intro ρ r1 r2
            iterate 2 (refine kX_one rfl ?_)
            have := ih (i + 1, ρ) ⟨q, r1, r2⟩ (by simp only; omega)
            dsimp only at this
            rw [← nI_1] at this
            exact kX_lv _ rfl rfl rfl this
          iterate 7 (refine kX_one rfl ?_)
          refine kX_cal (mc_breaks L xs d ω n R S C 202 28 0 i K st u (fun _ => 0) hBt q rfl (by decide) (by decide) hB hR) rfl (Or.inr rfl) rfl rfl rfl (fun r1 ρ q1 => ?_)
          obtain ⟨hq, hP⟩ := q1
          have hKb := isK_b hK'
          have j2 : sI σ ρ n S (N + 1) := sI_K i2 hK (nF_P hK' hP) (cKw_P hK' hTo hkw hP)
          have j3 : reP τ ρ := ⟨(hP.1 202 (by omega)).trans i3.1, fun c hc => (hP.1 c (by omega)).trans (i3.2 c hc)⟩
          rcases hq with rfl | rfl
          · iterate 1 (refine kX_one rfl ?_)
            exact k123 ρ j2 j3
          · iterate 6 (refine kX_one rfl ?_)
            have x2 : sI σ (va_up ρ 195 (upd (ρ 195) 12 (Int32.ofInt 1 + nI i))) n S (N + 1) := sI_eq j2 (fun c a _ _ _ _ _ => up_ne a) rfl j2.2.2.2.2.1
            have x3 : reP τ (va_up ρ 195 (upd (ρ 195) 12 (Int32.ofInt 1 + nI i))) := ⟨j3.1, fun c hc => (up_ne (by omega)).trans (j3.2 c hc)⟩
            refine kX_st (va_up ρ 195 (upd (ρ 195) 12 (Int32.ofInt 1 + nI i))) rfl ?_
            generalize va_up ρ 195 (upd (ρ 195) 12 (Int32.ofInt 1 + nI i)) = π at *
            iterate 4 (refine kX_one rfl ?_)
            refine kX_top (x2.2.2.2.1.2.1) ?_
            iterate 2 (refine kX_one rfl ?_)
            refine kX_top (y := nI N) (nI_pred N) ?_
            refine kX_cal (mc_tracePath L xs (d + 52) π S (N + 1) N (by omega) (by omega) x2.2.2.2.1.2.2.2.1) rfl (Or.inr rfl) rfl rfl rfl (fun r1 κ q1 => ?_)
            obtain ⟨rfl, t1, t2⟩ := q1
            obtain ⟨y1, y2, y3, ⟨z1, z2, z3, z4, -⟩, y5, y6⟩ := x2
            have e' : ∀ c, c < 195 ∨ (195 < c ∧ c < 203) ∨ 203 < c → κ c = π c := fun c hc => t1 c (by omega) (by omega)
            have hg : ∀ z, z < n → κ 8 z = π 8 z := fun z _ => by rw [e' _ (by decide)]
            have hgt : ∀ g, 200 ≤ g → κ 2 g = π 2 g ∧ κ 3 g = π 3 g ∧ κ 4 g = π 4 g ∧ κ 6 g = π 6 g := fun g _ => by
              rw [e' 2 (by decide), e' 3 (by decide), e' 4 (by decide), e' 6 (by decide)]
              exact ⟨rfl, rfl, rfl, rfl⟩
            have hIκ : sI σ κ n S (N + 1) := by
              refine ⟨sF_trans y1 (sF_of (fun c hc => e' c (by omega))), cKw_eq (by decide) (e' _ (by decide)) (e' _ (by decide)) (e' _ (by decide)) hgt y2, cKw_eq (by decide) (e' _ (by decide)) (e' _ (by decide)) (e' _ (by decide)) hgt y3, ⟨z1, by rw [e' 196 (by decide)]; exact z2, fun i hi => ?_, ?_, Or.inr ⟨by omega, t2⟩⟩, cQ_eq (e' _ (by decide)) (e' _ (by decide)) y5, cO_eq hg (fun c c1 c2 => e' c (by omega)) y6⟩
              · rw [e' 197 (by decide)]
                exact cV_eq hg (z3 i hi)
              · rw [e' 198 (by decide), e' 199 (by decide)]
                exact z4
            exact kX_lv _ rfl rfl rfl (k123 κ hIκ ⟨(e' 202 (by decide)).trans x3.1, fun c hc => (e' c (by omega)).trans (x3.2 c hc)⟩)
    iterate 5 (refine kX_one rfl ?_)
    refine kX_cal (mc_allDone L xs (d + 50) τ1 n R S C 202 28 0 (fun _ => 0) (cB_sI h hI1) rfl (by decide) (by decide)) rfl (Or.inr rfl) rfl rfl rfl (fun r1 σ1 q1 => ?_)
    obtain ⟨hq, rfl⟩ := q1
    rcases hq with rfl | rfl
    · iterate 3 (refine kX_one rfl ?_)
      exact kX_lv _ rfl rfl rfl (loop (0, τ1) ⟨Nat.zero_le _, hI1, hP1⟩)
    · iterate 9 (refine kX_one rfl ?_)
      have x2 : sI σ (va_up τ1 195 (upd (τ1 195) 11 (τ1 195 11 + Int32.ofInt 1))) n S (N + 1) := sI_eq hI1 (fun c a _ _ _ _ _ => up_ne a) rfl hI1.2.2.2.2.1
      have x3 : reP τ (va_up τ1 195 (upd (τ1 195) 11 (τ1 195 11 + Int32.ofInt 1))) := ⟨hP1.1, fun c hc => (up_ne (by omega)).trans (hP1.2 c hc)⟩
      exact kX_lv _ rfl rfl rfl (loop (0, va_up τ1 195 (upd (τ1 195) 11 (τ1 195 11 + Int32.ofInt 1))) ⟨Nat.zero_le _, x2, x3⟩)
  · iterate 3 (refine kX_one rfl ?_)
    refine kX_ret (i := .return_) (len := 1) rfl (Or.inr rfl) rfl ⟨rfl, ⟨rfl, fun c hc => up_ne (by omega)⟩, N, Nat.le_refl _, sI_eq hI (fun c a _ _ _ _ _ => up_ne a) rfl hI.2.2.2.2.1⟩
