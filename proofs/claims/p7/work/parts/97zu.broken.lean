/-! the class: broken -/
def cB (σ : kS) (n R S C : Nat) : Prop := cRo σ n R ∧ (S ≤ 4 ∧ σ 13 6 = nI S ∧ ∀ s, s < S → ∃ r, r < R ∧ σ 15 s = nI r) ∧ cCl σ C
theorem cB_of {σ : kS} {n R S C : Nat} (h : cJ σ n R S C) : cB σ n R S C := ⟨h.2.1, ⟨h.2.2.1.1, h.2.2.1.2.1, h.2.2.1.2.2.1⟩, h.2.2.2.1⟩
theorem cB_eq {σ τ : kS} {n R S C : Nat} (e : ∀ c, 13 ≤ c → c < 181 → τ c = σ c) (h : cB σ n R S C) : cB τ n R S C := by
  obtain ⟨h1, ⟨a1, a2, a3⟩, h3⟩ := h
  refine ⟨cRo_gr (Nat.le_refl _) (fun c c1 c2 => e c c1 (by omega)) h1, ⟨a1, by rw [e 13 (by decide) (by decide)]; exact a2, by rw [e 15 (by decide) (by decide)]; exact a3⟩, cCl_eq (by rw [e 13 (by decide) (by decide)]) (fun c c1 c2 => e c (by omega) (by omega)) h3⟩
set_option maxRecDepth 100000 in
set_option maxHeartbeats 4000000 in
theorem mc_isPartner (L : Nat) (xs : Nat → Int32) (d : Nat) (σ : kS) (n R S C A M base c s s' : Nat) (g0 : Nat → Int32) (hB : cB σ n R S C) (hc : c < C) (hs : s < S) (hs' : s' < S) (hA : kT[A]? = some (.inl (0, M, .inl g0))) (hM : M ≤ 100000) (hbm : base + 28 ≤ M) : kXM kT L xs (d + 2) 27 [.ref 13, .ref (163 + 3 * c), .ref A, .int (nI base), .int (nI s), .int (nI s')] σ (fun q σ' => (q = some (.int 0) ∨ q = some (.int 1)) ∧ σ = σ') := by
  obtain ⟨hRo, ⟨hS4, hSc, hSr⟩, hC6, hCc, hCl⟩ := hB
  have hc6 : c < 6 := by omega
  obtain ⟨a1, jn, j1, j2, j3⟩ := hCl c hc
  unfold kXM
  iterate 3 (refine kX_one rfl ?_)
  refine kX_ialdN rfl rfl (by decide) (s') (by first | rfl | decide) (by omega) ?_
  iterate 1 (refine kX_one rfl ?_)
  refine kX_getN rfl rfl (kT_cl hc6) rfl ?_
  repeat refine kX_one rfl ?_
  refine kX_if (fun q => ?_) (fun q => ?_)
  · repeat refine kX_one rfl ?_
    refine kX_ret (i := .ireturn) (len := 1) rfl (Or.inr rfl) rfl (⟨Or.inl rfl, rfl⟩)
  iterate 4 (refine kX_one rfl ?_)
  refine kX_cal (mc_doneBy L xs d σ A M base s' g0 hA hM (by omega)) rfl (Or.inr rfl) rfl rfl rfl (fun r1 σ1 q1 => ?_)
  obtain ⟨rfl, rfl⟩ := q1
  iterate 1 (refine kX_one rfl ?_)
  refine kX_getN rfl rfl (kT_cl hc6) rfl ?_
  repeat refine kX_one rfl ?_
  refine kX_if (fun q => ?_) (fun q => ?_)
  · have loop : ∀ q : Nat, q ≤ jn → kX kT L xs (d + 2) 27 34 [(6, .int (nI q)), (0, .ref 13), (1, .ref (163 + 3 * c)), (2, .ref A), (3, .int (nI base)), (4, .int (nI s)), (5, .int (nI s'))] [] σ (fun q σ' => (q = some (.int 0) ∨ q = some (.int 1)) ∧ σ = σ') := by
      refine kX_while (fun q => [(6, .int (nI q)), (0, .ref 13), (1, .ref (163 + 3 * c)), (2, .ref A), (3, .int (nI base)), (4, .int (nI s)), (5, .int (nI s'))]) (fun _ => σ) _ (fun q => jn - q) ?_
      intro i i1 ih
      iterate 2 (refine kX_one rfl ?_)
      refine kX_getN rfl rfl (kT_cl hc6) rfl ?_
      refine kX_top (j2) ?_
      repeat refine kX_one rfl ?_
      refine kX_if (fun q => ?_) (fun q => ?_)
      · repeat refine kX_one rfl ?_
        refine kX_ret (i := .ireturn) (len := 1) rfl (Or.inr rfl) rfl (⟨Or.inr rfl, rfl⟩)
      · have q := qgeF q i jn
        obtain ⟨⟨x, x1, x2⟩, y, y1, y2⟩ := j3 i q
        iterate 5 (refine kX_one rfl ?_)
        refine kX_getN rfl rfl (kT_cl hc6) rfl ?_
        iterate 1 (refine kX_one rfl ?_)
        refine kX_ialdV rfl ((kT_c1 hc6).1) (by decide) (i) (by first | rfl | decide) (by omega) (x2) ?_
        refine kX_cal (mc_valueOf L xs d σ A M base s x g0 hA hM (by omega)) rfl (Or.inr rfl) rfl rfl rfl (fun r1 σ1 q1 => ?_)
        obtain ⟨rfl, rfl⟩ := q1
        repeat refine kX_one rfl ?_
        refine kX_if (fun q2 => ?_) (fun q2 => ?_)
        · repeat refine kX_one rfl ?_
          refine kX_ret (i := .ireturn) (len := 1) rfl (Or.inr rfl) rfl (⟨Or.inl rfl, rfl⟩)
        · iterate 6 (refine kX_one rfl ?_)
          refine kX_getN rfl rfl (kT_cl hc6) rfl ?_
          iterate 1 (refine kX_one rfl ?_)
          refine kX_ialdV rfl ((kT_c1 hc6).2) (by decide) (i) (by first | rfl | decide) (by omega) (y2) ?_
          refine kX_cal (mc_valueOf L xs d σ A M base s' y g0 hA hM (by omega)) rfl (Or.inr rfl) rfl rfl rfl (fun r1 σ1 q1 => ?_)
          obtain ⟨rfl, rfl⟩ := q1
          repeat refine kX_one rfl ?_
          refine kX_if (fun q3 => ?_) (fun q3 => ?_)
          · iterate 2 (refine kX_one rfl ?_)
            have := ih (i + 1) (by omega) (by omega)
            rw [← nI_1] at this
            exact kX_lv _ rfl rfl rfl this
          · repeat refine kX_one rfl ?_
            refine kX_ret (i := .ireturn) (len := 1) rfl (Or.inr rfl) rfl (⟨Or.inl rfl, rfl⟩)
    iterate 2 (refine kX_one rfl ?_)
    exact kX_lv _ rfl rfl rfl (loop 0 (Nat.zero_le _))
  · repeat refine kX_one rfl ?_
    refine kX_ret (i := .ireturn) (len := 1) rfl (Or.inr rfl) rfl (⟨Or.inl rfl, rfl⟩)
set_option maxRecDepth 100000 in
set_option maxHeartbeats 4000000 in
theorem mc_canPartner (L : Nat) (xs : Nat → Int32) (σ : kS) (n R S C A M base c : Nat) (g0 : Nat → Int32) (hB : cB σ n R S C) (hc : c < C) (hA : kT[A]? = some (.inl (0, M, .inl g0))) (hM : M ≤ 100000) (hbm : base + 28 ≤ M) : ∀ (m d s : Nat) (w : Int32), s + m = S → kXM kT L xs (d + m + 3) 26 [.ref 13, .ref (163 + 3 * c), .ref A, .int (nI base), .int (nI s), .int w] σ (fun q σ' => (q = some (.int 0) ∨ q = some (.int 1)) ∧ σ = σ') := by
  have hRo := hB.1
  have hS4 := hB.2.1.1
  have hSc := hB.2.1.2.1
  have hSr := hB.2.1.2.2
  have hC6 := hB.2.2.1
  have hc6 : c < 6 := by omega
  intro m
  induction m with
  | zero =>
    intro d s w hsm
    unfold kXM
    iterate 3 (refine kX_one rfl ?_)
    refine kX_top (hSc) ?_
    repeat refine kX_one rfl ?_
    refine kX_if (fun q => ?_) (fun q => ?_)
    · have q := qlt q s S
      omega
    · repeat refine kX_one rfl ?_
      refine kX_ret (i := .ireturn) (len := 1) rfl (Or.inr rfl) rfl (⟨Or.inr rfl, rfl⟩)
  | succ m IH =>
    intro d s w hsm
    have hs : s < S := by omega
    have hs4 : s < 4 := by omega
    unfold kXM
    iterate 3 (refine kX_one rfl ?_)
    refine kX_top (hSc) ?_
    repeat refine kX_one rfl ?_
    refine kX_if (fun q => ?_) (fun q => ?_)
    · have k46 : kX kT L xs (d + (m + 1) + 3) 26 46 [(0, .ref 13), (1, .ref (163 + 3 * c)), (2, .ref A), (3, .int (nI base)), (4, .int (nI s)), (5, .int w)] [] σ (fun q σ' => (q = some (.int 0) ∨ q = some (.int 1)) ∧ σ = σ') := by
        iterate 7 (refine kX_one rfl ?_)
        refine kX_top (y := nI (s + 1)) (nI_1 s) ?_
        iterate 1 (refine kX_one rfl ?_)
        refine kX_cal (IH d (s + 1) w (by omega)) rfl (Or.inr rfl) rfl rfl rfl (fun r1 σ1 q1 => ?_)
        obtain ⟨hq, rfl⟩ := q1
        rcases hq with rfl | rfl
        · refine kX_ret (i := .ireturn) (len := 1) rfl (Or.inr rfl) rfl (⟨Or.inl rfl, rfl⟩)
        · refine kX_ret (i := .ireturn) (len := 1) rfl (Or.inr rfl) rfl (⟨Or.inr rfl, rfl⟩)
      have loop : ∀ q : Nat, q ≤ S → kX kT L xs (d + (m + 1) + 3) 26 63 [(6, .int (nI q)), (0, .ref 13), (1, .ref (163 + 3 * c)), (2, .ref A), (3, .int (nI base)), (4, .int (nI s)), (5, .int w)] [] σ (fun q σ' => (q = some (.int 0) ∨ q = some (.int 1)) ∧ σ = σ') := by
        refine kX_while (fun q => [(6, .int (nI q)), (0, .ref 13), (1, .ref (163 + 3 * c)), (2, .ref A), (3, .int (nI base)), (4, .int (nI s)), (5, .int w)]) (fun _ => σ) _ (fun q => S - q) ?_
        intro i i1 ih
        iterate 3 (refine kX_one rfl ?_)
        refine kX_top (hSc) ?_
        repeat refine kX_one rfl ?_
        refine kX_if (fun q => ?_) (fun q => ?_)
        · repeat refine kX_one rfl ?_
          refine kX_ret (i := .ireturn) (len := 1) rfl (Or.inr rfl) rfl (⟨Or.inl rfl, rfl⟩)
        · have q := qgeF q i S
          have k138 : ∀ lv, nk lv = true → ([(6, .int (nI i)), (0, .ref 13), (1, .ref (163 + 3 * c)), (2, .ref A), (3, .int (nI base)), (4, .int (nI s)), (5, .int w)] : jL).map (fun q => jl lv q.1) = ([(6, .int (nI i)), (0, .ref 13), (1, .ref (163 + 3 * c)), (2, .ref A), (3, .int (nI base)), (4, .int (nI s)), (5, Value.int w)] : jL).map (fun q => some q.2) → kX kT L xs (d + (m + 1) + 3) 26 138 lv [] σ (fun q σ' => (q = some (.int 0) ∨ q = some (.int 1)) ∧ σ = σ') := by
            intro lv hk hlv
            refine kX_lv _ hk rfl hlv ?_
            iterate 2 (refine kX_one rfl ?_)
            have := ih (i + 1) (by omega) (by omega)
            rw [← nI_1] at this
            exact kX_lv _ rfl rfl rfl this
          repeat refine kX_one rfl ?_
          refine kX_if (fun q2 => ?_) (fun q2 => ?_)
          · iterate 4 (refine kX_one rfl ?_)
            exact k138 _ rfl rfl
          · repeat refine kX_one rfl ?_
            refine kX_if (fun q3 => ?_) (fun q3 => ?_)
            · iterate 4 (refine kX_one rfl ?_)
              exact k138 _ rfl rfl
            · iterate 11 (refine kX_one rfl ?_)
              refine kX_cal (mc_isPartner L xs (d + m + 1) σ n R S C A M base c s i g0 hB hc hs q hA hM hbm) rfl (Or.inr rfl) rfl rfl rfl (fun r1 σ1 q1 => ?_)
              obtain ⟨hq, rfl⟩ := q1
              rcases hq with rfl | rfl
              · iterate 1 (refine kX_one rfl ?_)
                exact k138 _ rfl rfl
              · iterate 8 (refine kX_one rfl ?_)
                refine kX_top (y := nI (s + 1)) (nI_1 s) ?_
                iterate 5 (refine kX_one rfl ?_)
                refine kX_cal (IH d (s + 1) _ (by omega)) rfl (Or.inr rfl) rfl rfl rfl (fun r1 σ1 q1 => ?_)
                obtain ⟨hq, rfl⟩ := q1
                rcases hq with rfl | rfl
                · iterate 1 (refine kX_one rfl ?_)
                  exact k138 _ rfl rfl
                · repeat refine kX_one rfl ?_
                  refine kX_ret (i := .ireturn) (len := 1) rfl (Or.inr rfl) rfl (⟨Or.inr rfl, rfl⟩)
      iterate 3 (refine kX_one rfl ?_)
      refine kX_ialdN rfl rfl (by decide) (s) (by first | rfl | decide) (hs4) ?_
      iterate 1 (refine kX_one rfl ?_)
      refine kX_getN rfl rfl (kT_cl hc6) rfl ?_
      repeat refine kX_one rfl ?_
      refine kX_if (fun q2 => ?_) (fun q2 => ?_)
      · exact kX_lv _ rfl rfl rfl k46
      · iterate 3 (refine kX_one rfl ?_)
        refine kX_baldN rfl rfl (by decide) (s) (by first | rfl | decide) (hs4) ?_
        repeat refine kX_one rfl ?_
        refine kX_if (fun q3 => ?_) (fun q3 => ?_)
        · exact kX_lv _ rfl rfl rfl k46
        · iterate 4 (refine kX_one rfl ?_)
          refine kX_cal (mc_hasDoneAll L xs (d + m + 1) σ n R S A M base s g0 hRo hS4 hSr hs hA hM hbm) rfl (Or.inr rfl) rfl rfl rfl (fun r1 σ1 q1 => ?_)
          obtain ⟨hq, rfl⟩ := q1
          rcases hq with rfl | rfl
          · iterate 1 (refine kX_one rfl ?_)
            exact kX_lv _ rfl rfl rfl k46
          · iterate 3 (refine kX_one rfl ?_)
            exact kX_lv _ rfl rfl rfl (loop 0 (Nat.zero_le _))
    · have q := qltF q s S
      omega
set_option maxRecDepth 100000 in
set_option maxHeartbeats 4000000 in
theorem mc_leaks (L : Nat) (xs : Nat → Int32) (d : Nat) (σ : kS) (n R S C A M base c K st u : Nat) (g0 : Nat → Int32) (hB : cB σ n R S C) (hc : c < C) (hA : kT[A]? = some (.inl (0, M, .inl g0))) (hM : M ≤ 100000) (hbm : base + 28 ≤ M) (hK : nB σ K st n u) (hR : nR σ K) (hsec : σ (163 + 3 * c) 0 ≠ 0) : kXM kT L xs (d + 52) 25 [.ref 13, .ref (163 + 3 * c), .ref A, .int (nI base), .ref K] σ (fun q σ' => (q = some (.int 0) ∨ q = some (.int 1)) ∧ nP σ σ' K) := by
  have hS4 := hB.2.1.1
  have hC6 := hB.2.2.1
  have hc6 : c < 6 := by omega
  have hKb := isK_b hK.1
  have loop : ∀ q : Nat × kS, (q.1 ≤ S ∧ nP σ q.2 K) → kX kT L xs (d + 52) 25 3 [(5, .int (nI q.1)), (0, .ref 13), (1, .ref (163 + 3 * c)), (2, .ref A), (3, .int (nI base)), (4, .ref K)] [] q.2 (fun q σ' => (q = some (.int 0) ∨ q = some (.int 1)) ∧ nP σ σ' K) := by
    refine kX_while (fun q : Nat × kS => [(5, .int (nI q.1)), (0, .ref 13), (1, .ref (163 + 3 * c)), (2, .ref A), (3, .int (nI base)), (4, .ref K)]) (fun q => q.2) _ (fun q => S - q.1) ?_
    rintro ⟨i, τ⟩ ⟨i1, i2⟩ ih
    dsimp only at i1 i2 ih ⊢
    have hBt : cB τ n R S C := cB_eq (fun e e1 e2 => i2.1 e (by omega)) hB
    obtain ⟨v, v1, v2⟩ := (hBt.2.2.2.2 c hc).1 (by rw [i2.1 (163 + 3 * c) (by omega)]; exact hsec)
    iterate 3 (refine kX_one rfl ?_)
    refine kX_top (hBt.2.1.2.1) ?_
    repeat refine kX_one rfl ?_
    refine kX_if (fun q => ?_) (fun q => ?_)
    · repeat refine kX_one rfl ?_
      refine kX_ret (i := .ireturn) (len := 1) rfl (Or.inr rfl) rfl (⟨Or.inl rfl, i2⟩)
    · have q := qgeF q i S
      have k59 : ∀ τ', nP σ τ' K → kX kT L xs (d + 52) 25 59 [(5, .int (nI i)), (0, .ref 13), (1, .ref (163 + 3 * c)), (2, .ref A), (3, .int (nI base)), (4, .ref K)] [] τ' (fun q σ' => (q = some (.int 0) ∨ q = some (.int 1)) ∧ nP σ σ' K) := by
        intro τ' ht
        iterate 2 (refine kX_one rfl ?_)
        have := ih (i + 1, τ') ⟨q, ht⟩ (by simp only; omega)
        dsimp only at this
        rw [← nI_1] at this
        exact kX_lv _ rfl rfl rfl this
      iterate 3 (refine kX_one rfl ?_)
      refine kX_ialdN rfl rfl (by decide) (i) (by first | rfl | decide) (by omega) ?_
      iterate 1 (refine kX_one rfl ?_)
      refine kX_getN rfl rfl (kT_cl hc6) rfl ?_
      repeat refine kX_one rfl ?_
      refine kX_if (fun q2 => ?_) (fun q2 => ?_)
      · exact k59 τ i2
      · iterate 3 (refine kX_one rfl ?_)
        refine kX_baldN rfl rfl (by decide) (i) (by first | rfl | decide) (by omega) ?_
        repeat refine kX_one rfl ?_
        refine kX_if (fun q3 => ?_) (fun q3 => ?_)
        · exact k59 τ i2
        · iterate 6 (refine kX_one rfl ?_)
          refine kX_getN rfl rfl (kT_cl hc6) rfl ?_
          refine kX_top (v2) ?_
          refine kX_cal (mc_valueOf L xs (d + 50) τ A M base i v g0 hA hM (by omega)) rfl (Or.inr rfl) rfl rfl rfl (fun r1 σ1 q1 => ?_)
          obtain ⟨rfl, rfl⟩ := q1
          iterate 1 (refine kX_one rfl ?_)
          refine kX_cal (mc_canMake L xs K st n u 49 d 0 τ (τ A (base + 7 * i + 1 + v)) rfl (nB_P hK i2) i2.2.2.2) rfl (Or.inr rfl) rfl (jcall_v rfl rfl rfl (kT_kn hK.1) rfl rfl) rfl (fun r1 ω q1 => ?_)
          obtain ⟨hq, hP⟩ := q1
          rcases hq with rfl | rfl
          · iterate 1 (refine kX_one rfl ?_)
            exact k59 ω (nP_trans i2 hP)
          · repeat refine kX_one rfl ?_
            refine kX_ret (i := .ireturn) (len := 1) rfl (Or.inr rfl) rfl (⟨Or.inr rfl, nP_trans i2 hP⟩)
  unfold kXM
  iterate 2 (refine kX_one rfl ?_)
  exact kX_lv _ rfl rfl rfl (loop (0, σ) ⟨Nat.zero_le _, nP_refl hR⟩)
set_option maxRecDepth 100000 in
set_option maxHeartbeats 4000000 in
theorem mc_breaks (L : Nat) (xs : Nat → Int32) (d : Nat) (σ : kS) (n R S C A M base c K st u : Nat) (g0 : Nat → Int32) (hB : cB σ n R S C) (hc : c < C) (hA : kT[A]? = some (.inl (0, M, .inl g0))) (hM : M ≤ 100000) (hbm : base + 28 ≤ M) (hK : nB σ K st n u) (hR : nR σ K) : kXM kT L xs (d + 53) 24 [.ref 13, .int (nI c), .ref A, .int (nI base), .ref K] σ (fun q σ' => (q = some (.int 0) ∨ q = some (.int 1)) ∧ nP σ σ' K) := by
  have hS4 := hB.2.1.1
  have hC6 := hB.2.2.1
  have hc6 : c < 6 := by omega
  unfold kXM
  iterate 3 (refine kX_one rfl ?_)
  refine kX_aaldN rfl (rfl) (by decide) (by decide) (by decide) (c) (by first | rfl | decide) (hc6) (cl_at hc6) ?_
  iterate 2 (refine kX_one rfl ?_)
  refine kX_getN rfl rfl (kT_cl hc6) rfl ?_
  repeat refine kX_one rfl ?_
  refine kX_if (fun q => ?_) (fun q => ?_)
  · iterate 6 (refine kX_one rfl ?_)
    have hp := mc_canPartner L xs σ n R S C A M base c g0 hB hc hA hM hbm S (d + (49 - S)) 0 0 (by omega)
    rw [show d + (49 - S) + S + 3 = d + 52 by omega] at hp
    refine kX_cal hp rfl (Or.inr rfl) rfl rfl rfl (fun r1 ω q1 => ?_)
    obtain ⟨hq, rfl⟩ := q1
    rcases hq with rfl | rfl
    · repeat refine kX_one rfl ?_
      refine kX_ret (i := .ireturn) (len := 1) rfl (Or.inr rfl) rfl (⟨Or.inr rfl, nP_refl hR⟩)
    · repeat refine kX_one rfl ?_
      refine kX_ret (i := .ireturn) (len := 1) rfl (Or.inr rfl) rfl (⟨Or.inl rfl, nP_refl hR⟩)
  · iterate 5 (refine kX_one rfl ?_)
    refine kX_cal (mc_leaks L xs d σ n R S C A M base c K st u g0 hB hc hA hM hbm hK hR (qeqF q)) rfl (Or.inr rfl) rfl rfl rfl (fun r1 ω q1 => ?_)
    obtain ⟨hq, hP⟩ := q1
    rcases hq with rfl | rfl
    · repeat refine kX_one rfl ?_
      refine kX_ret (i := .ireturn) (len := 1) rfl (Or.inr rfl) rfl (⟨Or.inl rfl, hP⟩)
    · repeat refine kX_one rfl ?_
      refine kX_ret (i := .ireturn) (len := 1) rfl (Or.inr rfl) rfl (⟨Or.inr rfl, hP⟩)
set_option maxRecDepth 100000 in
set_option maxHeartbeats 4000000 in
theorem mk_broken (L : Nat) (xs : Nat → Int32) (d : Nat) (σ : kS) (n R S C : Nat) (x : Int32) (h : cJ σ n R S C) : kXM kT L xs (d + 56) 130 [.ref 0, .int x] σ (fun r σ' => (∃ x, r = some (.int x)) ∧ cAfter σ σ' R) := by
  have hcl := h.2.2.2.1
  unfold kXM
  iterate 3 (refine kX_one rfl ?_)
  refine kX_cal (mc_hasClaim L xs (d + 54) σ C x hcl.1 hcl.2.1) rfl (Or.inr rfl) rfl rfl rfl (fun r1 σ1 q1 => ?_)
  obtain ⟨rfl, rfl⟩ := q1
  repeat refine kX_one rfl ?_
  refine kX_if (fun q => ?_) (fun q => ?_)
  · obtain ⟨c, hc, rfl⟩ := isB_ne.mp (qne q)
    repeat refine kX_one rfl ?_
    refine kX_if (fun q2 => ?_) (fun q2 => ?_)
    · repeat refine kX_one rfl ?_
      refine kX_ret (i := .ireturn) (len := 1) rfl (Or.inr rfl) rfl (⟨⟨_, rfl⟩, cAfter_same h⟩)
    · have hon : σ 181 8 ≠ 0 := qeqF q2
      iterate 9 (refine kX_one rfl ?_)
      refine kX_cal (mc_intruder L xs d σ n R S C h hon) rfl (Or.inr rfl) rfl rfl rfl (fun r1 τ q1 => ?_)
      obtain ⟨rfl, i1, i2, ⟨u, i3⟩, -⟩ := q1
      refine kX_cal (mc_breaks L xs (d + 2) τ n R S C 182 28 0 c 186 200 u (fun _ => 0) (cB_of i2) hc rfl (by decide) (by decide) i3.1 i3.2.1) rfl (Or.inr rfl) rfl rfl rfl (fun r1 ω q1 => ?_)
      obtain ⟨hq, hP⟩ := q1
      have hA : cAfter σ ω R := ⟨cHi_trans i1 (fun c hc => hP.1 c (by omega)), n, S, C, cJ_P i2 i3 hP⟩
      rcases hq with rfl | rfl
      · refine kX_cal (mc_asNumber L xs (d + 54) ω _) rfl (Or.inr rfl) rfl rfl rfl (fun r1 σ1 q1 => ?_)
        obtain ⟨rfl, rfl⟩ := q1
        repeat refine kX_one rfl ?_
        refine kX_ret (i := .ireturn) (len := 1) rfl (Or.inr rfl) rfl (⟨⟨_, rfl⟩, hA⟩)
      · refine kX_cal (mc_asNumber L xs (d + 54) ω _) rfl (Or.inr rfl) rfl rfl rfl (fun r1 σ1 q1 => ?_)
        obtain ⟨rfl, rfl⟩ := q1
        repeat refine kX_one rfl ?_
        refine kX_ret (i := .ireturn) (len := 1) rfl (Or.inr rfl) rfl (⟨⟨_, rfl⟩, hA⟩)
  · repeat refine kX_one rfl ?_
    refine kX_ret (i := .ireturn) (len := 1) rfl (Or.inr rfl) rfl (⟨⟨_, rfl⟩, cAfter_same h⟩)
