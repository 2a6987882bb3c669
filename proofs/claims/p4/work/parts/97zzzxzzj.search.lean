section
/-! alike: the class's search -/
theorem opL_hi {σ τ : kS} (e : ∀ c, 232 ≤ c → τ c = σ c) (so : Nat) : ∀ n, opL τ so n = opL σ so n
  | 0 => rfl
  | n + 1 => by
    rw [opL_1, opL_1, opL_hi e so n]
    have : gS τ so n = gS σ so n := by
      unfold gS
      rw [e 233 (by decide), e 234 (by decide), e 235 (by decide)]
    rw [this]
/-- the first STATE -/
theorem a0_ok {σ : kS} {n b R S C m : Nat} {kl : List Nat} (h : aJ σ n b R S C kl m) : aOk σ n R S (stF σ 17 0 S) ∧ ∀ s, s < S → stF σ 17 0 S (7 * s) = 0 := by
  have hat : ∀ j, j < 7 * S → stF σ 17 0 S j = σ 17 j := fun j hj => by
    unfold stF
    rw [if_pos hj, Nat.zero_add]
  have hD : ∀ s, s < S → aD (stF σ 17 0 S) s = 0 := fun s hs => by
    show stF σ 17 0 S (7 * s) = 0
    rw [hat _ (by omega)]
    exact (h.2.2.2.2.1 s hs).2.1
  have hV : ∀ s k, s < S → k < 6 → aV (stF σ 17 0 S) (6 * s + k) = if k < fN (σ 244 (fN (σ 255 s))) then σ 256 (6 * s + k) else -6 := fun s k hs hk => by
    rw [aV_at _ hk, hat _ (by omega)]
    exact (h.2.2.2.2.1 s hs).2.2.1 k hk
  have hc := se_cfg (D := aD (stF σ 17 0 S)) (V := aV (stF σ 17 0 S)) h.1.1 h.1.2.1 h.1.2.2.1 hD hV
  refine ⟨⟨fun i hi => if_neg (by omega), hc, fun s k hs hk => ?_⟩, hD⟩
  rw [hat _ (by omega)]
  have := h.2.1.2.2.1.2.2.2 s k hs hk
  rw [show 0 + 7 * s + 1 + k = 7 * s + 1 + k by omega] at this
  rcases this with q | ⟨z, z1, z2, -⟩
  · exact Or.inl q
  · exact Or.inr ⟨z, z1, z2⟩
theorem sWi_0 {τ : kS} {wd : Nat} (h1 : τ 196 5 = 0) (h2 : ∀ s, s < 1024 → τ 201 s = -1) : sWi τ wd 0 := ⟨by decide, h1, fun s hs => Or.inl ⟨h2 s hs, fun t _ z => absurd z.1 (Nat.not_lt_zero t)⟩, fun t ht => absurd ht (Nat.not_lt_zero t)⟩
set_option maxRecDepth 100000 in
set_option maxHeartbeats 4000000 in
theorem mX_start (L : Nat) (xs : Nat → Int32) (d : Nat) (σ : kS) (n b R S C m0 : Nat) (kl : List Nat) (h : aJ σ n b R S C kl m0) (hm : m0 < 2147480000) (X : sX) (hXe : X = sRe σ kl S C ([], 0, 0, 0) (stF σ 17 0 S) (-1) (-1)) : kXM kT L xs (d + 56) 80 [.ref 195] σ (fun q ω => q = none ∧ cX σ ω n R S C X (m0 + 1)) := by
  have hJ := h.2.1
  have hT := hJ.1
  have hS4 := hJ.2.2.1.1
  have hn := h.1.1.1
  obtain ⟨ok0, ok1⟩ := a0_ok h
  obtain ⟨m1, m2, m3, e1, e2, e3, k1, k2, k3⟩ := h.2.2.2.2.2.2.2.2.2
  unfold kXM
  iterate 1 (refine kX_one rfl ?_)
  refine kX_cal (mf_forget L xs (d + 52) σ) rfl (Or.inr rfl) rfl rfl rfl (fun r1 τ q1 => ?_)
  obtain ⟨rfl, f1, f2, f4, f5, f6, f7, f3⟩ := q1
  have hT1 : cT τ n := cT_eq (by rw [f3 1 (by decide) (by decide) (by decide)]) (f3 _ (by decide) (by decide) (by decide)) (fun u _ => ⟨by rw [f3 2 (by decide) (by decide) (by decide)], by rw [f3 3 (by decide) (by decide) (by decide)], by rw [f3 4 (by decide) (by decide) (by decide)], by rw [f3 8 (by decide) (by decide) (by decide)], by rw [f3 12 (by decide) (by decide) (by decide)], by rw [f3 6 (by decide) (by decide) (by decide)]⟩) hT
  have hi1 : ∀ c, 232 ≤ c → τ c = σ c := fun c hc => f3 c (by omega) (by omega) (by omega)
  have hM1 : mTb τ n b := (mI_hi hi1 h.1).1
  have hA1 : ∀ t, t < n → aT1 τ t := aT1_sF hn (sF_of (fun c hc => f3 c (by omega) (by omega) (by omega))) (fun j _ => by rw [f3 5 (by decide) (by decide) (by decide)]) h.2.2.1.1
  iterate 2 (refine kX_one rfl ?_)
  refine kX_cal (mf_listOptions L xs (d + 53) τ n b hT1 hM1 hA1) rfl (Or.inr rfl) rfl rfl rfl (fun r1 ω q1 => ?_)
  obtain ⟨rfl, o1, o2⟩ := q1
  have o2 : cOL ω (fun so => opL σ so n) := fun so hso => by
    have := o2 so hso
    dsimp only at this ⊢
    rw [opL_hi hi1] at this
    exact this
  have e0 : ∀ c, c ≠ 195 → c ≠ 196 → c ≠ 201 → c < 224 ∨ 229 ≤ c → ω c = σ c := fun c c1 c2 c3 c4 => (o1 c c4).trans (f3 c c1 c2 c3)
  have w195 : ω 195 = τ 195 := o1 195 (by decide)
  have hsc : ω 13 6 = nI S := by
    rw [e0 13 (by decide) (by decide) (by decide) (by decide)]
    exact hJ.2.2.1.2.1
  iterate 4 (refine kX_one rfl ?_)
  refine kX_top (hsc) ?_
  iterate 2 (refine kX_one rfl ?_)
  refine kX_top (y := nI (7 * S)) (ix7s S) ?_
  iterate 1 (refine kX_one rfl ?_)
  generalize hρ : va_up ω 195 (upd (ω 195) 6 (nI (7 * S))) = ρ
  have g0 : ∀ c, c ≠ 195 → ρ c = ω c := fun c hc => by rw [← hρ]; exact up_ne hc
  have g1 : ∀ j, j ≠ 6 → ρ 195 j = τ 195 j := fun j hj => by rw [← hρ, up_eq, pk_un hj, w195]
  have g2 : ρ 195 6 = nI (7 * S) := by rw [← hρ, up_eq, pk_us]
  have hCl : cCl ρ C := cCl_eq (by rw [g0 13 (by decide), e0 13 (by decide) (by decide) (by decide) (by decide)]) (fun c c1 c2 => (g0 c (by omega)).trans (e0 c (by omega) (by omega) (by omega) (by omega))) hJ.2.2.2.1
  have hC6 := hCl.1
  iterate 3 (refine kX_one rfl ?_)
  refine kX_cal (mf_hasSecrets L xs (d + 54) ρ C hCl) rfl (Or.inr rfl) rfl rfl rfl (fun r1 σ1 q1 => ?_)
  obtain ⟨rfl, rfl⟩ := q1
  have hsec : (∃ c, c < C ∧ ρ (163 + 3 * c) 0 ≠ 0) ↔ (∃ c, c < C ∧ σ (163 + 3 * c) 0 ≠ 0) := exists_congr (fun c => and_congr_right (fun hc => by rw [g0 (163 + 3 * c) (by omega), e0 (163 + 3 * c) (by omega) (by omega) (by omega) (by omega)]))
  rw [isB_iff hsec]
  have k36 : ∀ v, v = isB (∃ c, c < C ∧ σ (163 + 3 * c) 0 ≠ 0) → kX kT L xs (d + 56) 80 36 [(0, .ref 195)] [] (va_up ρ 195 (upd (ρ 195) 7 v)) (fun q ω => q = none ∧ cX σ ω n R S C X (m0 + 1)) := by
    intro v hv
    iterate 8 (refine kX_one rfl ?_)
    refine kX_acpyN (n0 := 28) (n1 := 28) (f0 := fun _ => 0) (g0 := fun _ => 0) rfl rfl rfl rfl rfl rfl 0 0 28 rfl rfl rfl (by decide) (by decide) (by decide) (by decide) (Nat.zero_le 8) ?_
    refine kX_st (va_up (va_up ρ 195 (upd (ρ 195) 7 v)) 202 (va_cpy (ρ 17) (ρ 202) 0 0 28)) rfl ?_
    have x0 : ∀ c, c ≠ 195 → c ≠ 202 → va_up (va_up ρ 195 (upd (ρ 195) 7 v)) 202 (va_cpy (ρ 17) (ρ 202) 0 0 28) c = ω c := fun c c1 c2 => by
      rw [up_ne c2, up_ne c1]
      exact g0 c c1
    have x1 : ∀ j, j ≠ 7 → va_up (va_up ρ 195 (upd (ρ 195) 7 v)) 202 (va_cpy (ρ 17) (ρ 202) 0 0 28) 195 j = ρ 195 j := fun j hj => by
      rw [up_ne (by decide), up_eq, pk_un hj]
    have x2 : va_up (va_up ρ 195 (upd (ρ 195) 7 v)) 202 (va_cpy (ρ 17) (ρ 202) 0 0 28) 195 7 = v := by
      rw [up_ne (by decide), up_eq, pk_us]
    have x3 : stF (va_up (va_up ρ 195 (upd (ρ 195) 7 v)) 202 (va_cpy (ρ 17) (ρ 202) 0 0 28)) 202 0 S = stF σ 17 0 S := by
      funext j
      unfold stF
      by_cases hj : j < 7 * S
      · rw [if_pos hj, if_pos hj, up_eq, va_cpy, if_pos (by omega), g0 17 (by decide), e0 17 (by decide) (by decide) (by decide) (by decide)]
        congr 1
        omega
      · rw [if_neg hj, if_neg hj]
    generalize va_up (va_up ρ 195 (upd (ρ 195) 7 v)) 202 (va_cpy (ρ 17) (ρ 202) 0 0 28) = π at *
    have z0 : ∀ c, c ≠ 195 → c ≠ 196 → c ≠ 201 → c ≠ 202 → c < 224 ∨ 229 ≤ c → π c = σ c := fun c c1 c2 c3 c4 c5 => (x0 c c1 c4).trans (e0 c c1 c2 c3 c5)
    have z' : ∀ c, c < 195 ∨ (202 < c ∧ c < 224) ∨ 229 ≤ c → π c = σ c := fun c hc => z0 c (by omega) (by omega) (by omega) (by omega) (by omega)
    have hgt : ∀ g, 200 ≤ g → π 2 g = σ 2 g ∧ π 3 g = σ 3 g ∧ π 4 g = σ 4 g ∧ π 6 g = σ 6 g := fun g _ => by
      rw [z' 2 (by decide), z' 3 (by decide), z' 4 (by decide), z' 6 (by decide)]
      exact ⟨rfl, rfl, rfl, rfl⟩
    have hG : cGx σ π := ⟨sF_of (fun c hc => z' c (by omega)), fun j _ => by rw [z' 5 (by decide)], cKw_eq (by decide) (z' _ (by decide)) (z' _ (by decide)) (z' _ (by decide)) hgt hJ.2.2.2.2.2.2.1, cKw_eq (by decide) (z' _ (by decide)) (z' _ (by decide)) (z' _ (by decide)) hgt hJ.2.2.2.2.2.2.2.1, cQ_eq (z' _ (by decide)) (z' _ (by decide)) hJ.2.2.2.2.2.2.2.2.2.2⟩
    have hB : cB π n R S C := cB_eq (fun c c1 c2 => sF_13 hG.1 c c1 (by omega)) (cB_of hJ)
    obtain ⟨⟨v1, v2, v3, v4, v5, v6⟩, ⟨y1, y2, y3, y4, y5⟩, vh⟩ := vB_of h hG ok0
    have hsv : staV (stI π (stF σ 17 0 S)) 202 0 S := by
      have := stF_staV π 202 0 S (by decide)
      rw [x3] at this
      exact this
    have hK3 : kMs π 213 m3 := kMs_eq (fun c c1 c2 => z' c (by omega)) k3
    have hK2 : kMs π 204 m2 := kMs_eq (fun c c1 c2 => z' c (by omega)) k2
    iterate 7 (refine kX_one rfl ?_)
    refine kX_cal (mf_fill L xs (d + 1) π (stI π (stF σ 17 0 S)) 213 1352 n b R S 202 28 0 m3 kl (fun _ => 0) (Or.inr (Or.inr ⟨rfl, rfl⟩)) (stI_vw π _) v1 v2 v4 v6 y1 y2 y3 y5 hsv (cT_sF hG.1 hT) hB.1 hS4 hB.2.1.2.1 hG.2.2.2.1 hK3 (by omega) rfl (by decide) (by decide) (by decide)) rfl (Or.inr rfl) rfl rfl rfl (fun r1 κ q1 => ?_)
    obtain ⟨rfl, u, l, hg, hw, htr⟩ := q1
    have hF := hg.1
    have hE := hg.2.1
    rw [trSt_hi (stI_hi (sF_hi hG.1) _)] at htr
    have hc : ∀ c, 7 ≤ c → c < 213 ∨ 222 ≤ c → κ c = π c := fun c a b => hF.1.1 c (by omega) (by omega) (by omega) (by omega) (by omega) (by omega)
    have hs' : sF π κ := ⟨fun c a1 a2 a3 a4 a5 a6 => hF.1.1 c (by omega) a2 a3 a4 a5 a6, fun j hj => hF.1.2 j (by omega)⟩
    have hTk : cT κ n := cT_nF (Or.inr (Or.inr ⟨rfl, rfl⟩)) hF.1 (cT_sF hG.1 hT)
    have hX0 : cX σ κ n R S C ([], 0, 0, 0) (m0 + 1) := by
      refine ⟨⟨sF_trans hG.1 hs', fun j hj => (hF.2 j (by omega)).trans (hG.2.1 j hj), ?_, nW_w (iE_nW hE hTk hg.2.2.2), cQ_eq (hc _ (by decide) (by decide)) (hc _ (by decide) (by decide)) hG.2.2.2.2⟩, sWi_0 ?_ (fun s hs => ?_), fun i hi => absurd hi (Nat.not_lt_zero i), ⟨?_, ?_, ?_, by decide, ?_, ?_⟩, fun so hso => ?_, ⟨m2, by omega, kMs_eq (fun c c1 c2 => hc c (by omega) (by omega)) hK2⟩, ⟨u, m3 + 1, l, by omega, hE⟩, xOk_nil σ n R S, fun _ => ?_, fun z => absurd rfl z⟩
      · exact cKw_eq2 (hc _ (by decide) (by decide)) (hc _ (by decide) (by decide)) (hc _ (by decide) (by decide)) (fun g g1 g2 => hF.1.2 g (by omega)) hG.2.2.1
      · rw [hc 196 (by decide) (by decide), x0 196 (by decide) (by decide), o1 196 (by decide)]
        exact f1
      · rw [hc 201 (by decide) (by decide), x0 201 (by decide) (by decide), o1 201 (by decide)]
        exact f7 s hs
      · rw [hc 195 (by decide) (by decide), x1 _ (by decide)]
        exact g2
      · rw [hc 195 (by decide) (by decide), x2]
        exact hv
      · rw [hc 195 (by decide) (by decide), x1 _ (by decide), g1 _ (by decide)]
        exact f4
      · rw [hc 195 (by decide) (by decide), x1 _ (by decide), g1 _ (by decide)]
        exact f5
      · rw [hc 195 (by decide) (by decide), x1 _ (by decide), g1 _ (by decide)]
        exact f6
      · rw [hc 228 (by decide) (by decide), hc (224 + so) (by omega) (by omega), x0 228 (by decide) (by decide), x0 (224 + so) (by omega) (by omega)]
        exact o2 so hso
      · rw [hc 195 (by decide) (by decide), x1 _ (by decide), g1 _ (by decide)]
        exact f2
    have hst : stF κ 202 0 S = stF σ 17 0 S := by
      rw [← x3]
      unfold stF
      rw [hc 202 (by decide) (by decide)]
    iterate 5 (refine kX_one rfl ?_)
    refine kX_cal (mX_reach L xs d σ κ n b R S C m0 (m0 + 1) 213 1352 u (m3 + 1) kl ([], 0, 0, 0) (stF σ 17 0 S) l _ _ h hX0 (Or.inr ⟨rfl, rfl⟩) hE (by omega) hst ok0 (fun ⟨q, z, _⟩ => absurd z List.not_mem_nil) rfl (Or.inl ⟨rfl, ok1⟩) (fun _ => htr)) rfl (Or.inr rfl) rfl rfl rfl (fun r1 μ q1 => ?_)
    obtain ⟨rfl, hXk, -, -⟩ := q1
    have hXk : cX σ μ n R S C X (m0 + 1) := by
      rw [hXe]
      exact hXk
    refine kX_ret (i := .return_) (len := 1) rfl (Or.inr rfl) rfl (⟨rfl, hXk⟩)
  by_cases hse : ∃ c, c < C ∧ σ (163 + 3 * c) 0 ≠ 0
  · rw [isB_T hse]
    iterate 1 (refine kX_one rfl ?_)
    exact kX_lv _ rfl rfl rfl (k36 _ (isB_T hse).symm)
  · rw [isB_F hse]
    iterate 1 (refine kX_one rfl ?_)
    exact kX_lv _ rfl rfl rfl (k36 _ (isB_F hse).symm)
set_option maxRecDepth 100000 in
set_option maxHeartbeats 4000000 in
theorem mX_goesOn (L : Nat) (xs : Nat → Int32) (d : Nat) (τ : kS) (N i : Nat) (an : Int32) (hN : N ≤ 600) (hi : i ≤ 600) (hc : τ 196 5 = nI N) (ha : τ 195 12 = an) : kXM kT L xs (d + 1) 81 [.ref 195, .int (nI i)] τ (fun q ω => q = some (.int (isB (an = 0 ∧ i < N))) ∧ τ = ω) := by
  unfold kXM
  repeat refine kX_one rfl ?_
  refine kX_if (fun q => ?_) (fun q => ?_)
  · have q : an ≠ 0 := fun e => qne q (ha.trans e)
    have e : isB (an = 0 ∧ i < N) = 0 := isB_F (fun z => q z.1)
    repeat refine kX_one rfl ?_
    refine kX_ret (i := .ireturn) (len := 1) rfl (Or.inr rfl) rfl (⟨by rw [e]; rfl, rfl⟩)
  · have q : an = 0 := ha.symm.trans (qneF q)
    iterate 4 (refine kX_one rfl ?_)
    refine kX_top (hc) ?_
    repeat refine kX_one rfl ?_
    refine kX_if (fun q2 => ?_) (fun q2 => ?_)
    · have q2 := qge q2 i N
      have e : isB (an = 0 ∧ i < N) = 0 := isB_F (fun z => by omega)
      repeat refine kX_one rfl ?_
      refine kX_ret (i := .ireturn) (len := 1) rfl (Or.inr rfl) rfl (⟨by rw [e]; rfl, rfl⟩)
    · have q2 := qgeF q2 i N
      have e : isB (an = 0 ∧ i < N) = 1 := isB_T ⟨q, q2⟩
      repeat refine kX_one rfl ?_
      refine kX_ret (i := .ireturn) (len := 1) rfl (Or.inr rfl) rfl (⟨by rw [e]; rfl, rfl⟩)
set_option maxRecDepth 100000 in
set_option maxHeartbeats 4000000 in
theorem mX_search (L : Nat) (xs : Nat → Int32) (d : Nat) (σ : kS) (n b R S C m0 : Nat) (kl : List Nat) (h : aJ σ n b R S C kl m0) (hm : m0 < 2147470000) (X : sX) (hXe : X = sSr σ kl n S C (stF σ 17 0 S)) : kXM kT L xs (d + 58) 132 [.ref 0] σ (fun r ω => r = some (.int X.2.2.2) ∧ cX σ ω n R S C X (m0 + 2401)) := by
  have loop : ∀ q : Nat × kS × sX, (q.1 ≤ 600 ∧ cX σ q.2.1 n R S C q.2.2 (m0 + 1 + 4 * q.1) ∧ sAll σ kl n S C (600 - q.1) q.1 q.2.2 = X) → kX kT L xs (d + 58) 132 9 [(1, .int (nI q.1)), (0, .ref 0)] [] q.2.1 (fun r ω => r = some (.int X.2.2.2) ∧ cX σ ω n R S C X (m0 + 2401)) := by
    refine kX_while (fun q : Nat × kS × sX => [(1, .int (nI q.1)), (0, .ref 0)]) (fun q => q.2.1) _ (fun q => 600 - q.1) ?_
    rintro ⟨i, ω, x⟩ ⟨i1, i2, i3⟩ ih
    dsimp only at i1 i2 i3 ih ⊢
    have hans := i2.2.2.2.1.2.2.2.2.2
    have fin : x = X → ∀ lv, nk lv = true → ([(0, .ref 0)] : jL).map (fun q => jl lv q.1) = ([(0, Value.ref 0)] : jL).map (fun q => some q.2) → kX kT L xs (d + 58) 132 41 lv [] ω (fun r ω => r = some (.int X.2.2.2) ∧ cX σ ω n R S C X (m0 + 2401)) := by
      intro e lv hk hlv
      refine kX_lv _ hk rfl hlv ?_
      subst e
      iterate 3 (refine kX_one rfl ?_)
      refine kX_top (y := x.2.2.2) hans ?_
      refine kX_ret (i := .ireturn) (len := 1) rfl (Or.inr rfl) rfl (⟨rfl, cX_up i2 (by omega)⟩)
    repeat refine kX_one rfl ?_
    refine kX_if (fun q => ?_) (fun q => ?_)
    · have q := qge q i 600
      rw [show 600 - i = 0 by omega] at i3
      exact fin i3 _ rfl rfl
    · have q := qgeF q i 600
      obtain ⟨m', hm'⟩ : ∃ m', 600 - i = m' + 1 := ⟨600 - i - 1, by omega⟩
      rw [hm', sAll] at i3
      iterate 3 (refine kX_one rfl ?_)
      refine kX_cal (mX_goesOn L xs (d + 56) ω x.1.length i x.2.2.2 i2.2.1.1 i1 i2.2.1.2.1 hans) rfl (Or.inr rfl) rfl rfl rfl (fun r1 σ1 q1 => ?_)
      obtain ⟨rfl, rfl⟩ := q1
      by_cases hg : x.2.2.2 = 0 ∧ i < x.1.length
      · rw [isB_T hg]
        rw [cit_T hg] at i3
        iterate 4 (refine kX_one rfl ?_)
        refine kX_cal (mX_goThrough L xs d σ ω n b R S C m0 (m0 + 1 + 4 * i) i kl x _ h i2 (by omega) hg.2 rfl _ rfl) rfl (Or.inr rfl) rfl rfl rfl (fun r1 ρ q1 => ?_)
        obtain ⟨rfl, hX2⟩ := q1
        iterate 2 (refine kX_one rfl ?_)
        have := ih (i + 1, ρ, _) ⟨q, cX_up hX2 (by simp only; omega), by simp only; rw [show 600 - (i + 1) = m' by omega]; exact i3⟩ (by simp only; omega)
        dsimp only at this
        rw [← nI_1] at this
        exact kX_lv _ rfl rfl rfl this
      · rw [isB_F hg]
        rw [cit_F hg] at i3
        iterate 1 (refine kX_one rfl ?_)
        exact fin i3 _ rfl rfl
  unfold kXM
  iterate 2 (refine kX_one rfl ?_)
  refine kX_cal (mX_start L xs (d + 1) σ n b R S C m0 kl h (by omega) _ rfl) rfl (Or.inr rfl) rfl rfl rfl (fun r1 τ q1 => ?_)
  obtain ⟨rfl, hI⟩ := q1
  iterate 2 (refine kX_one rfl ?_)
  exact kX_lv _ rfl rfl rfl (loop (0, τ, _) ⟨Nat.zero_le _, hI, hXe.symm⟩)
end
section
/-! alike: the reference in THE SEARCH -/
/-- the STATES, as the reference has them -/
def mSx (τ : kS) (S : Nat) (l : xT) : Prop := ∀ i, i < l.length → (∀ s, s < S → stD τ i s = aD (xq l i).1 s) ∧ (∀ s k, s < S → k < 6 → stV τ i (6 * s + k) = aV (xq l i).1 (6 * s + k)) ∧ τ 286 i = (xq l i).2.1 ∧ τ 287 i = (xq l i).2.2
def mY (σ τ : kS) (n R S : Nat) (x : sX) : Prop := mSf σ τ n ∧ (∃ b, mTb τ n b) ∧ mSs τ n R S x.1.length ∧ mSx τ S x.1 ∧ (τ 232 70 = nI x.2.1 ∧ x.2.1 ≤ 20001 ∧ τ 232 71 = nI x.2.2.1) ∧ xOk σ n R S x.1
/-- the answer, as the reference tells it -/
def rY (C : Nat) (x : sX) (r : Option Value) : Prop := (x.2.2.2 = 0 ∧ r = some (.int (-6))) ∨ (x.2.2.2 = -7 ∧ r = some (.int (-7))) ∨ ∃ c, c < C ∧ x.2.2.2 = nI (1 + c) ∧ r = some (.int (nI c)) ∧ 0 < x.1.length
/-- the STATE a stands in doing and value -/
def aSt (τ : kS) (S : Nat) (a : Nat → Int32) : Prop := (∀ s, s < S → τ 264 s = aD a s) ∧ ∀ s k, s < S → k < 6 → τ 265 (6 * s + k) = aV a (6 * s + k)
/-- the row is tr -/
def rwY (τ : kS) (n : Nat) (tr : trT) : Prop := ∃ b l, b ≤ 776 ∧ mTb τ n b ∧ mRq τ (mvG τ n b) l ∧ mJd τ n b l ∧ rwM τ l = tr
theorem nnI_cs {n z : Nat} {x : Int32} (hn : n ≤ 200) (h : x = -1 ∨ ∃ z, z < n ∧ x = nI z) : (x = -1 ∧ nnI x = -6) ∨ ∃ z, z < n ∧ x = nI z ∧ nnI x = nI z := by
  rcases h with q | ⟨z, z1, z2⟩
  · refine Or.inl ⟨q, ?_⟩
    rw [q]
    rfl
  · refine Or.inr ⟨z, z1, z2, ?_⟩
    rw [z2]
    exact nnI_nI (by omega)
theorem aOk_eq {σ : kS} {n R S : Nat} {a a' : Nat → Int32} (hn : n ≤ 200) (h : aOk σ n R S a) (h' : aOk σ n R S a') : a = a' ↔ ∀ s, s < S → aD a s = aD a' s ∧ ∀ k, k < 6 → aV a (6 * s + k) = aV a' (6 * s + k) := by
  refine ⟨fun e s _ => by rw [e]; exact ⟨rfl, fun _ _ => rfl⟩, fun e => ?_⟩
  funext i
  by_cases hi : i < 7 * S
  · have hs : i / 7 < S := by omega
    by_cases q : i % 7 = 0
    · have := (e (i / 7) hs).1
      unfold aD at this
      rw [show 7 * (i / 7) = i by omega] at this
      exact this
    · have := (e (i / 7) hs).2 (i % 7 - 1) (by omega)
      rw [aV_at _ (by omega), aV_at _ (by omega), show 7 * (i / 7) + 1 + (i % 7 - 1) = i by omega] at this
      have c1 := h.2.2 (i / 7) (i % 7 - 1) hs (by omega)
      have c2 := h'.2.2 (i / 7) (i % 7 - 1) hs (by omega)
      rw [show 7 * (i / 7) + 1 + (i % 7 - 1) = i by omega] at c1 c2
      rcases nnI_cs (z := 0) hn c1 with ⟨q1, q2⟩ | ⟨z, z1, z2, z3⟩ <;> rcases nnI_cs (z := 0) hn c2 with ⟨p1, p2⟩ | ⟨w, w1, w2, w3⟩
      · rw [q1, p1]
      · rw [q2, w3] at this
        exact absurd (show nI w < 0 by rw [← this]; decide) (nI_pos (by omega))
      · rw [z3, p2] at this
        exact absurd (show nI z < 0 by rw [this]; decide) (nI_pos (by omega))
      · rw [z3, w3] at this
        rw [z2, w2, this]
  · rw [h.1 i (by omega), h'.1 i (by omega)]
theorem mSf_eqC {σ τ : kS} {n : Nat} {a : Nat → Int32} (h : mSf σ τ n) : eqC (stI σ a) τ sxC := eqC_of (P := fun c => c ∉ rowC ∧ c ∉ srX ∧ c ≠ 264 ∧ c ≠ 265) (fun c q => by rw [stI_lo σ a q.2.2.1 q.2.2.2]; exact h.1 c q.1 q.2.1) _ (by decide)
/-- the row of the STATE that stands -/
theorem tr_st {σ τ : kS} {n b R S C : Nat} {kl : List Nat} {a : Nat → Int32} (hT : mTb σ n b) (hB : mBs σ n R S C kl) (hF : mSf σ τ n) (ha : aOk σ n R S a) (hs : aSt τ S a) : trSt τ kl S = trSt (stI σ a) kl S := trSt_cg (σ := stI σ a) (b := b) hT hB.1 hB.2.2.1 (aOk_Sv hT hB.1 hB.2.1 ha) hF.2.2 (mSf_eqC hF) (fun s h => Or.inl (hs.1 s h)) (fun s k h1 h2 _ => hs.2 s k h1 h2)
theorem mBt_st {σ τ : kS} {n b R S C c : Nat} {kl : List Nat} {tr : trT} {a : Nat → Int32} (hT : mTb σ n b) (hB : mBs σ n R S C kl) (hF : mSf σ τ n) (ha : aOk σ n R S a) (hs : aSt τ S a) (hc : c < C) : mBt τ tr c S ↔ mBt (stI σ a) tr c S := mBt_cg (σ := stI σ a) (b := b) (R := R) (C := C) hT hB.1 hB.2.2.2 hc (aOk_Sv hT hB.1 hB.2.1 ha) hF.2.2 (mSf_eqC hF) (fun s h => hs.1 s h) (fun s k h1 h2 => hs.2 s k h1 h2)
theorem cfg_st {σ τ : kS} {n b R S : Nat} {a : Nat → Int32} (hT : mTb σ n b) (hR : mRo σ n R) (hF : mSf σ τ n) (ha : aOk σ n R S a) (hs : aSt τ S a) : cfg τ n R S (τ 264) (τ 265) := cfg_sf hT hR hF (cfg_ext hs.1 hs.2 ha.2.1)
set_option maxRecDepth 100000 in
set_option maxHeartbeats 4000000 in
theorem mY_comes (L : Nat) (xs : Nat → Int32) (d : Nat) (σ τ : kS) (n b R S C : Nat) (kl : List Nat) (x : sX) (a : Nat → Int32) (f y : Int32) (hT : mTb σ n b) (hB : mBs σ n R S C kl) (hY : mY σ τ n R S x) (ha : aOk σ n R S a) (hs : aSt τ S a) (han : x.2.2.2 = 0) (hp : (x.1.length = 0 ∧ ∀ s, s < S → a (7 * s) = 0) ∨ ∃ j mv, j < x.1.length ∧ f = nI j ∧ y = nI mv ∧ stp S (aD (xq x.1 j).1) (aV (xq x.1 j).1) (aD a) (aV a) mv) :
    kXM kT L xs (d + 8) 213 [.ref 232, .int f, .int y] τ (fun r ω => mY σ ω n R S (sRe σ kl S C x a f y) ∧ rY C (sRe σ kl S C x a f y) r ∧ ω 264 = τ 264 ∧ ω 265 = τ 265 ∧ ω 292 = τ 292 ∧ ω 293 = τ 293) := by
  obtain ⟨hF, ⟨b1, hT1⟩, hSs, hSx, ⟨w1, w2, w3⟩, hok⟩ := id hY
  have hB1 := mBs_sf hT hF hB
  have hn := hT.1
  have hS4 := hB.2.1.1
  have hC6 : C ≤ 6 := hB.2.2.2.1
  have hcf := cfg_st hT hB.1 hF ha hs
  have hlink : (x.1.length = 0 ∧ ∀ s, s < S → τ 264 s = 0) ∨ ∃ j m, j < x.1.length ∧ f = nI j ∧ y = nI m ∧ stp S (stD τ j) (stV τ j) (τ 264) (τ 265) m := by
    rcases hp with ⟨q1, q2⟩ | ⟨j, mv, q1, q2, q3, q4⟩
    · exact Or.inl ⟨q1, fun s h => (hs.1 s h).trans (q2 s h)⟩
    · exact Or.inr ⟨j, mv, q1, q2, q3, stp_ext (hSx j q1).1 (hSx j q1).2.1 hs.1 hs.2 q4⟩
  have hin : (∃ i, i < x.1.length ∧ smS τ S i) ↔ ∃ q ∈ x.1, q.1 = a := by
    rw [xq_mem]
    refine exists_congr (fun i => and_congr_right (fun hi => ?_))
    rw [aOk_eq hn (hok.2 i hi).1 ha]
    refine forall_congr' (fun s => forall_congr' (fun h => ?_))
    unfold sm1
    have e1 := (hSx i hi).1 s h
    unfold stD at e1
    rw [e1, hs.1 s h]
    refine and_congr_right (fun _ => forall_congr' (fun k => forall_congr' (fun hk => ?_)))
    have e2 := (hSx i hi).2.1 s k h hk
    unfold stV at e2
    rw [show 24 * i + (6 * s + k) = 24 * i + 6 * s + k by omega] at e2
    rw [e2, hs.2 s k h hk]
  have hft : fsB (fun c => mBt τ (trSt τ kl S) c S) C 0 = fsB (fun c => mBt (stI σ a) (trSt (stI σ a) kl S) c S) C 0 := fsB_congr C 0 (fun c _ hc => by rw [tr_st hT hB hF ha hs]; exact mBt_st hT hB hF ha hs (by omega))
  have had : (∀ s, s < S → adN τ s) ↔ (∀ s, s < S → adN (stI σ a) s) := by
    refine forall_congr' (fun s => forall_congr' (fun h => ?_))
    unfold adN
    rw [hs.1 s h, hF.1 247 (by decide) (by decide), hF.1 255 (by decide) (by decide)]
    exact Iff.rfl
  refine kXM_mono (mf_comesToBe L xs d τ n b1 R S C x.1.length kl f y hT1 hB1 hSs hcf hlink) ?_
  rintro r ω ⟨hP, hq⟩
  rw [hin] at hq
  obtain ⟨N', n1, n2, -, p1, p2, p3, p4, p5, p6, p7, p8⟩ := hP
  rcases hq with ⟨q, rfl, rfl⟩ | ⟨q, qN, rfl, rfl⟩ | ⟨q, qN, hG⟩
  · have e : sRe σ kl S C x a f y = x := by
      unfold sRe
      rw [cit_T q]
    rw [e]
    exact ⟨hY, Or.inl ⟨han, rfl⟩, rfl, rfl, rfl, rfl⟩
  · have e : sRe σ kl S C x a f y = (x.1, x.2.1, x.2.2.1, -7) := by
      unfold sRe
      rw [cit_F q, cit_T (by omega)]
    rw [e]
    exact ⟨hY, Or.inr (Or.inl ⟨rfl, rfl⟩), rfl, rfl, rfl, rfl⟩
  · have e : sRe σ kl S C x a f y = (x.1 ++ [(a, f, y)], x.2.1, x.2.2.1 + cit (∀ s, s < S → adN (stI σ a) s) 1 0, fsB (fun c => mBt (stI σ a) (trSt (stI σ a) kl S) c S) C 0) := by
      unfold sRe
      rw [cit_F q, cit_F (by omega)]
    have hlen : (x.1 ++ [(a, f, y)]).length = x.1.length + 1 := by rw [List.length_append]; rfl
    obtain ⟨g1, g2, g3, g4, g5, g6, g7, g8⟩ := hG
    have hN' : N' = x.1.length + 1 := nI_inj (p3.2.1.symm.trans g2) (by have := p3.1; omega) (by omega)
    subst hN'
    rw [hft] at g1
    rw [isB_iff had] at g3
    rw [e]
    refine ⟨⟨mSf_trans hF p1, p2, ?_, fun i hi => ?_, ⟨?_, w2, ?_⟩, xOk_push hok qN ha hp⟩, ?_, p4, p5, p6, p7⟩
    · show mSs ω n R S (x.1 ++ [(a, f, y)]).length
      rw [hlen]
      exact p3
    · have hi : i < x.1.length + 1 := by rw [← hlen]; exact hi
      by_cases ee : i = x.1.length
      · subst ee
        show _ ∧ _ ∧ ω 286 x.1.length = (xq (x.1 ++ [(a, f, y)]) x.1.length).2.1 ∧ ω 287 x.1.length = (xq (x.1 ++ [(a, f, y)]) x.1.length).2.2
        rw [xq_eq]
        exact ⟨fun s h => (g7 s h).trans (hs.1 s h), fun s k h hk => (g8 s k h hk).trans (hs.2 s k h hk), by rw [g5, pk_us], by rw [g6, pk_us]⟩
      · have hi' : i < x.1.length := by omega
        show _ ∧ _ ∧ ω 286 i = (xq (x.1 ++ [(a, f, y)]) i).2.1 ∧ ω 287 i = (xq (x.1 ++ [(a, f, y)]) i).2.2
        rw [xq_lt hi']
        obtain ⟨c1, c2, c3, c4⟩ := hSx i hi'
        exact ⟨fun s h => ((p8 i hi').1 s h).trans (c1 s h), fun s k h hk => ((p8 i hi').2 s k h hk).trans (c2 s k h hk), by rw [g5, pk_un ee]; exact c3, by rw [g6, pk_un ee]; exact c4⟩
    · rw [g4 _ (by decide) (by decide) (by decide)]
      exact w1
    · rw [g3, w3]
      by_cases z : ∀ s, s < S → adN (stI σ a) s
      · rw [isB_T z, cit_T z]
        exact nI_1 _
      · rw [isB_F z, cit_F z, Nat.add_zero]
        exact Int32.add_zero _
    · rcases g1 with ⟨z1, z2⟩ | ⟨c, c1, c2, c3⟩
      · exact Or.inl ⟨z2, z1⟩
      · refine Or.inr (Or.inr ⟨c, c1, c3, c2, ?_⟩)
        show 0 < (x.1 ++ [(a, f, y)]).length
        omega
end
section
/-! alike: receives, the reference's parts -/
theorem mY_sf {σ τ ω : kS} {n b R S C : Nat} {kl : List Nat} {x : sX} (hT : mTb σ n b) (hB : mBs σ n R S C kl) (hY : mY σ τ n R S x) (hF : mSf τ ω n) (hTo : ∃ b, mTb ω n b) (e1 : ω 284 = τ 284) (e2 : ω 285 = τ 285) (e3 : ω 286 = τ 286) (e4 : ω 287 = τ 287) (e5 : ω 232 69 = τ 232 69 ∧ ω 232 70 = τ 232 70 ∧ ω 232 71 = τ 232 71) : mY σ ω n R S x := by
  obtain ⟨h1, ⟨b1, h2⟩, h3, h4, ⟨w1, w2, w3⟩, h5⟩ := hY
  refine ⟨mSf_trans h1 hF, hTo, mSs_sf h2 (mSf_Ro hT h1 hB.1) hF e1 e2 e3 e4 e5.1 h3, fun i hi => ?_, ⟨e5.2.1.trans w1, w2, e5.2.2.trans w3⟩, h5⟩
  have := h4 i hi
  unfold stD stV at this ⊢
  rw [e1, e2, e3, e4]
  exact this
theorem mY_fr {σ τ ω : kS} {n b R S C : Nat} {kl : List Nat} {x : sX} (hT : mTb σ n b) (hB : mBs σ n R S C kl) (hY : mY σ τ n R S x) (hF : mFr τ ω n) (hTo : ∃ b, mTb ω n b) : mY σ ω n R S x := mY_sf hT hB hY (mSf_fr hF) hTo (hF.1 _ (by decide)) (hF.1 _ (by decide)) (hF.1 _ (by decide)) (hF.1 _ (by decide)) ⟨hF.2.1 _ (by decide), hF.2.1 _ (by decide), hF.2.1 _ (by decide)⟩
theorem mY_up {σ τ : kS} {n b R S C c : Nat} {kl : List Nat} {x : sX} {f : Nat → Int32} (hT : mTb σ n b) (hB : mBs σ n R S C kl) (hY : mY σ τ n R S x) (hc : c = 264 ∨ c = 265 ∨ c = 292 ∨ c = 293) : mY σ (va_up τ c f) n R S x := by
  obtain ⟨b1, h2⟩ := hY.2.1
  rcases hc with rfl | rfl | rfl | rfl
  · exact mY_sf hT hB hY (mSf_up (by decide)) ⟨b1, h2⟩ rfl rfl rfl rfl ⟨rfl, rfl, rfl⟩
  · exact mY_sf hT hB hY (mSf_up (by decide)) ⟨b1, h2⟩ rfl rfl rfl rfl ⟨rfl, rfl, rfl⟩
  · exact mY_sf hT hB hY (mSf_up (by decide)) ⟨b1, h2⟩ rfl rfl rfl rfl ⟨rfl, rfl, rfl⟩
  · exact mY_sf hT hB hY (mSf_up (by decide)) ⟨b1, h2⟩ rfl rfl rfl rfl ⟨rfl, rfl, rfl⟩
set_option maxRecDepth 100000 in
set_option maxHeartbeats 4000000 in
theorem mf_rc_try (L : Nat) (xs : Nat → Int32) (d : Nat) (σ : kS) (n b s t : Nat) (l : rwT) (h : mTb σ n b) (hb : b ≤ 776) (hq : mRq σ (mvG σ n b) l) (hj : mJd σ n b l) (hs : s < 4) (ht : t < n) (hst : mSt σ n s t) (x m g : Int32) (my : Int64) (Q : Option Value → kS → Prop)
    (he : ∀ ρ, mFr σ ρ n → mTb ρ n b → mRq ρ (mvG ρ n b) l → mJd ρ n b l → rwM ρ l = rwM σ l → kX kT L xs (d + 6) 217 266 [(9, .int (isB (trM σ (rwM σ l) (tin σ s t)))), (0, .ref 232), (1, .int x), (2, .int (nI s)), (3, .int (nI t)), (4, .int m), (5, .long my), (7, .int g)] [] ρ Q) :
    kX kT L xs (d + 6) 217 242 [(0, .ref 232), (1, .int x), (2, .int (nI s)), (3, .int (nI t)), (4, .int m), (5, .long my), (7, .int g)] [] σ Q := by
  have hb2 := h.2.1
  iterate 2 (refine kX_one rfl ?_)
  refine kX_top (h.2.2.2.2.1) ?_
  iterate 5 (refine kX_one rfl ?_)
  refine kX_cal (mr_standsFor L xs d σ n b s t h (by omega) hs ht hst) rfl (Or.inr rfl) rfl rfl rfl (fun r1 ρ q1 => ?_)
  obtain ⟨u, b', rfl, hE, hb', hu, hu2, hu3⟩ := q1
  obtain ⟨hq2, hrw⟩ := mRq_ex h hE hq
  have hj2 := mJd_ex h hE (fun t ht => hq.2.2.1 t ht) hj
  have hbb := hE.2.1
  have hmk : mMk ρ l u ↔ trM σ (rwM σ l) (tin σ s t) := by
    have hF := mFr_ex hE h.2.1
    unfold mMk trM
    rw [hu2, ← rwM_I, hrw, mFr_A hF, hF.1 238 (by decide)]
    exact ⟨fun z => z.2, fun z => ⟨hu3, z⟩⟩
  refine kX_cal (mr_canMake L xs (d + 1) ρ n b' l u hE.1 hq2 hj2 hu) rfl (Or.inr rfl) rfl rfl rfl (fun r1 ρ2 q1 => ?_)
  obtain ⟨rfl, M, rfl, hj3⟩ := q1
  rw [isB_iff hmk]
  have hF := rwF_cmS (σ := ρ) (M := M) (x := nI b') (y := nI l.length)
  have hT3 := rwF_Tb hF hE.1
  have hq3 : mRq (cmS ρ M (upd (upd (ρ 232) 49 (nI b')) 50 (nI l.length))) (mvG (cmS ρ M (upd (upd (ρ 232) 49 (nI b')) 50 (nI l.length))) n b') l := hq2
  have hFr : mFr σ (cmS ρ M (upd (upd (ρ 232) 49 (nI b')) 50 (nI l.length))) n := mFr_trans (mFr_ex hE h.2.1) (mFr_rwF hF)
  have hrw3 : rwM (cmS ρ M (upd (upd (ρ 232) 49 (nI b')) 50 (nI l.length))) l = rwM σ l := hrw
  generalize cmS ρ M (upd (upd (ρ 232) 49 (nI b')) 50 (nI l.length)) = ρ3 at *
  iterate 3 (refine kX_one rfl ?_)
  refine kX_cal (mr_release L xs (d + 4) ρ3 n b' b hT3 hb2 hbb) rfl (Or.inr rfl) rfl rfl rfl (fun r1 ρ4 q1 => ?_)
  obtain ⟨rfl, hd, rfl, hT4⟩ := q1
  obtain ⟨hq4, hj4⟩ := rel_row (hd := hd) hq3 hj3 hb2 hbb (by omega) (fun t ht => (hq.2.2.1 t ht).1)
  exact kX_lv _ rfl rfl rfl (he _ (mFr_trans hFr (mFr_rel ρ3 n b hd)) hT4 hq4 hj4 hrw3)
/-- what may stand, one after another -/
theorem opL_pw (σ : kS) (so : Nat) : ∀ n, (opL σ so n).Pairwise (fun x y => x < y)
  | 0 => List.Pairwise.nil
  | n + 1 => by
    rw [opL_1]
    by_cases h : gS σ so n
    · rw [cit_T h, List.pairwise_append]
      refine ⟨opL_pw σ so n, List.pairwise_singleton _ _, fun a ha c hc => ?_⟩
      rw [List.mem_singleton] at hc
      rw [hc]
      exact ((opL_mem σ so n a).mp ha).1
    · rw [cit_F h]
      exact opL_pw σ so n
theorem nx_at {σ τ : kS} {n v so j t : Nat} {r : Option Value} (ho : ∀ z, z < n → (ofs τ v z ↔ gS σ so z)) (ht : (j = 0 ∧ t = 0) ∨ ∃ j0, ∃ (h0 : j0 < (opL σ so n).length), j = j0 + 1 ∧ t = (opL σ so n)[j0]'h0 + 1) (hn : nxo τ n v t r) : (∀ h : j < (opL σ so n).length, r = some (.int (nI ((opL σ so n)[j]'h)))) ∧ ((opL σ so n).length ≤ j → r = some (.int (-1))) := by
  have hp := List.pairwise_iff_getElem.mp (opL_pw σ so n)
  have hm := opL_mem σ so n
  have key : ∀ i (h : i < (opL σ so n).length), t ≤ (opL σ so n)[i]'h ↔ j ≤ i := fun i h => by
    rcases ht with ⟨q1, q2⟩ | ⟨j0, h0, q1, q2⟩
    · omega
    · rcases Nat.lt_trichotomy i j0 with z | z | z
      · have := hp i j0 h h0 z
        omega
      · subst z
        omega
      · have := hp j0 i h0 h z
        omega
  have hin : ∀ i (h : i < (opL σ so n).length), (opL σ so n)[i]'h < n ∧ ofs τ v ((opL σ so n)[i]'h) := fun i h => by
    obtain ⟨a1, a2⟩ := (hm _).mp (List.getElem_mem h)
    exact ⟨a1, (ho _ a1).mpr a2⟩
  rcases hn with ⟨rfl, hno⟩ | ⟨z, z1, z2, z3, z4, rfl⟩
  · refine ⟨fun h => absurd (hin j h).2 (hno _ ((key j h).mpr (Nat.le_refl _)) (hin j h).1), fun _ => rfl⟩
  · obtain ⟨i, hi, e⟩ := List.getElem_of_mem ((hm z).mpr ⟨z2, (ho z z2).mp z3⟩)
    have hji : j ≤ i := (key i hi).mp (by rw [e]; exact z1)
    refine ⟨fun h => ?_, fun h => absurd hji (by omega)⟩
    have : i = j := Classical.byContradiction (fun ne => by
      have hlt := hp j i h hi (by omega)
      rw [e] at hlt
      exact z4 _ ((key j h).mpr (Nat.le_refl _)) hlt (hin j h).2)
    subst this
    rw [e]
theorem cnt_opL {σ : kS} {so : Nat} {f : Nat → Prop} : ∀ n, (∀ z, z < n → (f z ↔ gS σ so z)) → cnt f n = (opL σ so n).length
  | 0, _ => rfl
  | n + 1, h => by
    rw [cnt, opL_1, cnt_opL n (fun z hz => h z (by omega))]
    by_cases q : gS σ so n
    · rw [cit_T q, if_pos ((h n (by omega)).mpr q), List.length_append]
      rfl
    · rw [cit_F q, if_neg (fun z => q ((h n (by omega)).mp z))]
      rfl
theorem ofs_gS {σ τ : kS} {n b u so : Nat} (h : mTb σ n b) (hF : mSf σ τ n) (hso : σ 240 u = nI so) (hs3 : so ≤ 3) : ∀ z, z < n → (ofs τ u z ↔ gS σ so z) := fun z hz => by
  rw [ofs_sf h hF hz]
  unfold ofs gS
  rw [hso]
  refine and_congr_right (fun _ => or_congr ⟨fun q => nI_inj q, fun q => by rw [q]⟩ Iff.rfl)
end
section
/-! alike: receives, the reference's loops -/
theorem lI_add (a b : Nat) : lI a + lI b = lI (a + b) := by
  unfold lI
  rw [← Int64.ofInt_add]
  congr 1
theorem lc_le {a : Nat} (ha : a < 9223372036854775808) : lg_cmp (lI a) 20000 ≤ 0 ↔ a ≤ 20000 := by
  have e : (20000 : Int64) = lI 20000 := by decide
  rw [e]
  refine ⟨fun q => ?_, fun q => ?_⟩
  · have q : lI a ≤ lI 20000 := lw_le (decide_eq_true q)
    rw [Int64.le_iff_toInt_le, lI_toInt ha, lI_toInt (by omega)] at q
    omega
  · have : ¬ lI a > lI 20000 := by
      show ¬ lI 20000 < lI a
      rw [Int64.lt_iff_toInt_lt, lI_toInt ha, lI_toInt (by omega)]
      omega
    unfold lg_cmp
    rw [if_neg this]
    split <;> decide
theorem mn_mul (P c : Nat) : min (min P 20001 * c) 20001 = min (P * c) 20001 := by
  by_cases h : P ≤ 20001
  · rw [Nat.min_eq_left h]
  · rw [Nat.min_eq_right (show 20001 ≤ P by omega)]
    rcases Nat.eq_zero_or_pos c with rfl | hc
    · simp
    · have h1 : 20001 * 1 ≤ 20001 * c := Nat.mul_le_mul_left _ hc
      have h2 : 20001 * 1 ≤ P * c := Nat.mul_le_mul (by omega) hc
      rw [Nat.min_eq_right (by omega), Nat.min_eq_right (by omega)]
/-- what is open, of the first k VARIABLES -/
noncomputable def opF (σ : kS) (s : Nat) (vs : List Nat) (k : Nat) : List Nat := fl (fun u => σ 265 (6 * s + fN (σ 241 u)) < 0) (vs.take k)
noncomputable def opM (σ : kS) (n : Nat) (op : List Nat) : Nat := min (wyN (op.map (fun u => cnt (ofs σ u) n))) 20001
set_option maxRecDepth 100000 in
set_option maxHeartbeats 4000000 in
theorem mf_rc_open (L : Nat) (xs : Nat → Int32) (d : Nat) (σ : kS) (n b s : Nat) (vs : List Nat) (h : mTb σ n b) (hs : s < 4) (hst : σ 232 22 = nI vs.length) (hv : lst (σ 251) vs) (h24 : vs.length ≤ 24) (hnd : vs.Pairwise (fun x y => x ≠ y)) (h1 : ∀ u ∈ vs, u < 200 ∧ ∃ k, k < 6 ∧ σ 241 u = nI k) (h2 : ∀ u ∈ vs, ∀ v ∈ vs, u ≠ v → σ 241 u ≠ σ 241 v) (x t : Int32) (Q : Option Value → kS → Prop)
    (he : ∀ O, lst O (opF σ s vs vs.length) → kX kT L xs (d + 3) 217 107 [(0, .ref 232), (1, .int x), (2, .int (nI s)), (3, .int t), (4, .int (nI (opF σ s vs vs.length).length)), (5, .long (lI (opM σ n (opF σ s vs vs.length))))] [] (va_up σ 292 O) Q) :
    ∀ q : Nat × (Nat → Int32), (q.1 ≤ vs.length ∧ lst q.2 (opF σ s vs q.1)) → kX kT L xs (d + 3) 217 14 [(7, .int (nI q.1)), (0, .ref 232), (1, .int x), (2, .int (nI s)), (3, .int t), (4, .int (nI (opF σ s vs q.1).length)), (5, .long (lI (opM σ n (opF σ s vs q.1))))] [] (va_up σ 292 q.2) Q := by
  have hn := h.1
  refine kX_while (fun q : Nat × (Nat → Int32) => [(7, .int (nI q.1)), (0, .ref 232), (1, .int x), (2, .int (nI s)), (3, .int t), (4, .int (nI (opF σ s vs q.1).length)), (5, .long (lI (opM σ n (opF σ s vs q.1))))]) (fun q => va_up σ 292 q.2) _ (fun q => vs.length - q.1) ?_
  rintro ⟨k, O⟩ ⟨i1, i2⟩ ih
  dsimp only at i1 i2 ih ⊢
  have hopv : ∀ k, ∀ u ∈ opF σ s vs k, u ∈ vs := fun k u hu => List.mem_of_mem_take (fl_mem.mp hu).1
  have hpw : ∀ k, (opF σ s vs k).Pairwise (fun x y => x ≠ y) := fun k => fl_nd (List.Pairwise.sublist (List.take_sublist k vs) hnd)
  have h6 : ∀ k, (opF σ s vs k).length ≤ 6 := fun k => op_len (hpw k) (fun u hu => (h1 u (hopv k u hu)).2) (fun u hu v hv' => h2 u (hopv k u hu) v (hopv k v hv'))
  iterate 3 (refine kX_one rfl ?_)
  refine kX_top (hst) ?_
  repeat refine kX_one rfl ?_
  refine kX_if (fun q => ?_) (fun q => ?_)
  · have q := qge q k vs.length
    obtain rfl : k = vs.length := by omega
    exact kX_lv _ rfl rfl rfl (he O i2)
  · have q := qgeF q k vs.length
    have hmem : vs[k] ∈ vs := List.getElem_mem q
    obtain ⟨u1, z, z1, z2⟩ := h1 _ hmem
    have hlk := hv k q
    have hfz : fN (σ 241 vs[k]) = z := by rw [z2]; exact fN_nI (by omega)
    have hop : opF σ s vs (k + 1) = opF σ s vs k ++ cit (σ 265 (6 * s + fN (σ 241 vs[k])) < 0) [vs[k]] [] := by
      unfold opF
      rw [List.take_succ_eq_append_getElem q, fl_app]
    have h6k := h6 (k + 1)
    generalize hu : vs[k] = u at *
    have k101 : ∀ O', lst O' (opF σ s vs (k + 1)) → ∀ τ, τ = va_up σ 292 O' → kX kT L xs (d + 3) 217 101 [(7, .int (nI k)), (0, .ref 232), (1, .int x), (2, .int (nI s)), (3, .int t), (4, .int (nI (opF σ s vs (k + 1)).length)), (5, .long (lI (opM σ n (opF σ s vs (k + 1)))))] [] τ Q := by
      intro O' hI τ hτ
      subst hτ
      iterate 2 (refine kX_one rfl ?_)
      have := ih (k + 1, O') ⟨q, hI⟩ (by simp only; omega)
      dsimp only at this
      rw [← nI_1] at this
      exact kX_lv _ rfl rfl rfl this
    have k48 : σ 265 (6 * s + z) < 0 → kX kT L xs (d + 3) 217 48 [(7, .int (nI k)), (0, .ref 232), (1, .int x), (2, .int (nI s)), (3, .int t), (4, .int (nI (opF σ s vs k).length)), (5, .long (lI (opM σ n (opF σ s vs k))))] [] (va_up σ 292 O) Q := by
      intro hneg
      have hop2 : opF σ s vs (k + 1) = opF σ s vs k ++ [u] := by
        rw [hop, cit_T (by rw [hfz]; exact hneg)]
      rw [hop2] at k101 h6k
      rw [List.length_append] at h6k
      simp only [List.length_cons, List.length_nil] at h6k
      have hM : opM σ n (opF σ s vs k ++ [u]) = min (opM σ n (opF σ s vs k) * cnt (ofs σ u) n) 20001 := by
        unfold opM
        rw [List.map_append, List.map_singleton, wyN_app, mn_mul]
      have hMle : opM σ n (opF σ s vs k) ≤ 20001 := Nat.min_le_right _ _
      have hcn : cnt (ofs σ u) n ≤ n := cnt_le _ _
      have hpr : opM σ n (opF σ s vs k) * cnt (ofs σ u) n ≤ 20001 * 200 := Nat.mul_le_mul hMle (by omega)
      have hlst : lst (upd O (opF σ s vs k).length (nI u)) (opF σ s vs k ++ [u]) := lst_push i2 u
      have k96 : ∀ my1 my', my' = lI (opM σ n (opF σ s vs k ++ [u])) → kX kT L xs (d + 3) 217 96 [(7, .int (nI k)), (0, .ref 232), (1, .int x), (2, .int (nI s)), (3, .int t), (4, .int (nI (opF σ s vs k).length)), (5, .long my1)] [.long my'] (va_up σ 292 (upd O (opF σ s vs k).length (nI u))) Q := by
        intro my1 my' hm
        subst hm
        iterate 2 (refine kX_one rfl ?_)
        have := k101 _ hlst _ rfl
        rw [show nI (opF σ s vs k ++ [u]).length = nI (opF σ s vs k).length + 1 by rw [nI_1]; simp] at this
        exact kX_lv _ rfl rfl rfl this
      iterate 6 (refine kX_one rfl ?_)
      refine kX_ialdV rfl rfl (by decide) (k) (by first | rfl | decide) (by omega) (hlk) ?_
      refine kX_iastN rfl rfl (by decide) ((opF σ s vs k).length) (by first | rfl | decide) (by omega) ?_
      refine kX_st (va_up σ 292 (upd O (opF σ s vs k).length (nI u))) ?_ ?_
      · funext c; unfold  va_up; repeat' split
        all_goals first | rfl | omega | (subst_vars; rfl) | (funext j; unfold upd; repeat' split; all_goals first | rfl | omega | (subst_vars; rfl))
      iterate 5 (refine kX_one rfl ?_)
      refine kX_ialdV rfl rfl (by decide) (k) (by first | rfl | decide) (by omega) (hlk) ?_
      refine kX_cal (mr_howMany L xs d (va_up σ 292 (upd O (opF σ s vs k).length (nI u))) n b u h u1) rfl (Or.inr rfl) rfl rfl rfl (fun r1 σ1 q1 => ?_)
      obtain ⟨rfl, rfl⟩ := q1
      have hcnt : cnt (ofs (va_up σ 292 (upd O (opF σ s vs k).length (nI u))) u) n = cnt (ofs σ u) n := rfl
      rw [hcnt]
      have hmul : lI (opM σ n (opF σ s vs k)) * (nI (cnt (ofs σ u) n)).toInt64 = lI (opM σ n (opF σ s vs k) * cnt (ofs σ u) n) := by
        rw [nI_lI (by omega), lI_mul]
      generalize opM σ n (opF σ s vs k) * cnt (ofs σ u) n = PM at *
      iterate 6 (refine kX_one rfl ?_)
      repeat refine kX_one rfl ?_
      refine kX_if (fun q2 => ?_) (fun q2 => ?_)
      · have q2 : lg_cmp (lI (opM σ n (opF σ s vs k)) * (nI (cnt (ofs σ u) n)).toInt64) 20000 ≤ 0 := of_decide_eq_true q2
        rw [hmul, lc_le (by omega)] at q2
        iterate 1 (refine kX_one rfl ?_)
        refine kX_lv _ rfl rfl rfl (k96 (lI (opM σ n (opF σ s vs k)) * (nI (cnt (ofs σ u) n)).toInt64) (lI (opM σ n (opF σ s vs k)) * (nI (cnt (ofs σ u) n)).toInt64) ?_)
        rw [hmul, hM, Nat.min_eq_left (by omega)]
      · have q2 : ¬ lg_cmp (lI (opM σ n (opF σ s vs k)) * (nI (cnt (ofs σ u) n)).toInt64) 20000 ≤ 0 := of_decide_eq_false q2
        rw [hmul, lc_le (by omega)] at q2
        iterate 2 (refine kX_one rfl ?_)
        refine kX_lv _ rfl rfl rfl (k96 (lI (opM σ n (opF σ s vs k)) * (nI (cnt (ofs σ u) n)).toInt64) 20001 ?_)
        rw [hM, Nat.min_eq_right (by omega)]
        decide
    iterate 10 (refine kX_one rfl ?_)
    refine kX_ialdV rfl rfl (by decide) (k) (by first | rfl | decide) (by omega) (hlk) ?_
    refine kX_ialdV rfl rfl (by decide) (u) (by first | rfl | decide) (u1) (z2) ?_
    iterate 1 (refine kX_one rfl ?_)
    refine kX_ialdN rfl rfl (by decide) (6 * s + z) (ix6 s z) (by omega) ?_
    repeat refine kX_one rfl ?_
    refine kX_if (fun q2 => ?_) (fun q2 => ?_)
    · have q2 : ¬ σ 265 (6 * s + z) < 0 := Int32.not_lt.mpr (of_decide_eq_true q2)
      have hop2 : opF σ s vs (k + 1) = opF σ s vs k := by
        rw [hop, cit_F (by rw [hfz]; exact q2), List.append_nil]
      rw [hop2] at k101
      exact k101 O i2 _ rfl
    · exact k48 (Int32.not_le.mp (of_decide_eq_false q2))
/-- the options of what is open -/
def opW (σ : kS) (n : Nat) (op : List Nat) (os : List (List Nat)) : Prop := os.length = op.length ∧ op.length ≤ 6 ∧ ∀ p (h : p < op.length) (h' : p < os.length), op[p]'h < 200 ∧ ∃ so, so ≤ 3 ∧ σ 240 (op[p]'h) = nI so ∧ os[p]'h' = opL σ so n
/-- chosen: the way w, for VARIABLES from lo on below hi -/
def chW (os : List (List Nat)) (CH : Nat → Int32) (w lo hi : Nat) : Prop := ∀ p (h : p < os.length) (h' : p < (dg (os.map List.length) w).length), lo ≤ p → p < hi → CH p = nI ((os[p]'h).getD ((dg (os.map List.length) w)[p]'h') 0)
set_option maxRecDepth 100000 in
set_option maxHeartbeats 4000000 in
theorem mf_rc_first (L : Nat) (xs : Nat → Int32) (d : Nat) (σ τ : kS) (n b0 b : Nat) (op : List Nat) (os : List (List Nat)) (h : mTb σ n b0) (hF : mSf σ τ n) (hT : mTb τ n b) (hO : opW σ n op os) (ho : lst (τ 292) op) (hpos : ∀ c ∈ os.map List.length, 0 < c) (x s t : Int32) (my : Int64) (Q : Option Value → kS → Prop)
    (he : ∀ CH, chW os CH 0 0 op.length → kX kT L xs (d + 3) 217 189 [(0, .ref 232), (1, .int x), (2, .int s), (3, .int t), (4, .int (nI op.length)), (5, .long my)] [] (va_up τ 293 CH) Q) :
    ∀ q : Nat × (Nat → Int32), (q.1 ≤ op.length ∧ chW os q.2 0 0 q.1) → kX kT L xs (d + 3) 217 157 [(7, .int (nI q.1)), (0, .ref 232), (1, .int x), (2, .int s), (3, .int t), (4, .int (nI op.length)), (5, .long my)] [] (va_up τ 293 q.2) Q := by
  obtain ⟨o1, o6, o2⟩ := hO
  refine kX_while (fun q : Nat × (Nat → Int32) => [(7, .int (nI q.1)), (0, .ref 232), (1, .int x), (2, .int s), (3, .int t), (4, .int (nI op.length)), (5, .long my)]) (fun q => va_up τ 293 q.2) _ (fun q => op.length - q.1) ?_
  rintro ⟨k, CH⟩ ⟨i1, i2⟩ ih
  dsimp only at i1 i2 ih ⊢
  iterate 2 (refine kX_one rfl ?_)
  repeat refine kX_one rfl ?_
  refine kX_if (fun q => ?_) (fun q => ?_)
  · have q := qge q k op.length
    obtain rfl : k = op.length := by omega
    exact kX_lv _ rfl rfl rfl (he CH i2)
  · have q := qgeF q k op.length
    obtain ⟨u1, so, s1, s2, s3⟩ := o2 k q (by omega)
    have hl : 0 < (opL σ so n).length := by
      have := hpos _ (List.mem_map.mpr ⟨_, List.getElem_mem (show k < os.length by omega), rfl⟩)
      rw [s3] at this
      exact this
    iterate 7 (refine kX_one rfl ?_)
    refine kX_ialdV rfl rfl (by decide) (k) (by first | rfl | decide) (by omega) (ho k q) ?_
    iterate 1 (refine kX_one rfl ?_)
    refine kX_cal (mr_nextOf L xs d (va_up τ 293 CH) n b op[k] 0 hT u1 (Nat.zero_le _)) rfl (Or.inr rfl) rfl rfl rfl (fun r1 σ1 q1 => ?_)
    obtain ⟨hx, rfl⟩ := q1
    obtain rfl := (nx_at (σ := σ) (τ := va_up τ 293 CH) (j := 0) (ofs_gS h (mSf_trans hF (mSf_up (c := 293) (by decide))) s2 s1) (Or.inl ⟨rfl, rfl⟩) hx).1 hl
    refine kX_iastN rfl rfl (by decide) (k) (by first | rfl | decide) (by omega) ?_
    iterate 2 (refine kX_one rfl ?_)
    have := ih (k + 1, upd CH k (nI ((opL σ so n)[0]'hl))) ⟨q, fun p hp hp' _ hpk => by
      simp only at hpk ⊢
      by_cases e : p = k
      · subst e
        rw [pk_us, dg_0 (os.map List.length) p (by rw [List.length_map]; exact hp), s3, List.getD_eq_getElem?_getD, List.getElem?_eq_getElem hl]
        rfl
      · rw [pk_un e]
        exact i2 p hp hp' (Nat.zero_le _) (by omega)⟩ (by simp only; omega)
    dsimp only at this
    rw [← nI_1] at this
    refine kX_to _ _ rfl rfl rfl ?_ this
    funext c; unfold  va_up; repeat' split
    all_goals first | rfl | omega | (subst_vars; rfl) | (funext j; unfold upd; repeat' split; all_goals first | rfl | omega | (subst_vars; rfl))
end
section
/-! alike: receives, from one way to the next -/
def oG (os : List (List Nat)) (p j : Nat) : Nat := (os.getD p []).getD j 0
def oL (os : List (List Nat)) (p : Nat) : Nat := (os.getD p []).length
def dG (os : List (List Nat)) (w p : Nat) : Nat := (dg (os.map List.length) w).getD p 0
section OG
variable {os : List (List Nat)} {w p : Nat}
theorem og_at (h : p < os.length) : os.getD p [] = os[p]'h := by
  rw [List.getD_eq_getElem?_getD, List.getElem?_eq_getElem h]
  rfl
theorem dG_at (h : p < os.length) (h' : p < (dg (os.map List.length) w).length) : dG os w p = (dg (os.map List.length) w)[p]'h' := by
  unfold dG
  rw [List.getD_eq_getElem?_getD, List.getElem?_eq_getElem h']
  rfl
theorem dG_l : (dg (os.map List.length) w).length = os.length := by rw [dg_len, List.length_map]
theorem cs_at (h : p < os.length) (h' : p < (os.map List.length).length) : (os.map List.length)[p]'h' = oL os p := by
  unfold oL
  rw [List.getElem_map, og_at h]
theorem dG_lt (hw : w < wyN (os.map List.length)) (h : p < os.length) : dG os w p < oL os p := by
  have := dg_lt (os.map List.length) w hw p (by rw [List.length_map]; exact h)
  rw [cs_at h] at this
  rw [dG_at h (by rw [dG_l]; exact h)]
  exact this
theorem dG_mx (hw : w + 1 = wyN (os.map List.length)) (h : p < os.length) : dG os w p + 1 = oL os p := by
  have := dg_max (os.map List.length) (by omega) p (by rw [List.length_map]; exact h)
  rw [cs_at h] at this
  rw [dG_at h (by rw [dG_l]; exact h)]
  have e : w = wyN (os.map List.length) - 1 := by omega
  subst e
  exact this
theorem dG_odo (hw : w + 1 < wyN (os.map List.length)) : ∃ jj, jj < os.length ∧ dG os w jj + 1 < oL os jj ∧ dG os (w + 1) jj = dG os w jj + 1 ∧ (∀ p, p < jj → dG os (w + 1) p = dG os w p) ∧ ∀ p, p < os.length → jj < p → dG os w p + 1 = oL os p ∧ dG os (w + 1) p = 0 := by
  obtain ⟨jj, hj, o1, o2, o3, o4⟩ := odo (os.map List.length) w hw
  have hj' : jj < os.length := by rw [List.length_map] at hj; exact hj
  have hl : ∀ v p, p < os.length → p < (dg (os.map List.length) v).length := fun v p hp => by rw [dG_l]; exact hp
  refine ⟨jj, hj', ?_, ?_, fun p hp => ?_, fun p hp hjp => ?_⟩
  · rw [cs_at hj'] at o1
    rw [dG_at hj' (hl w jj hj')]
    exact o1
  · rw [dG_at hj' (hl w jj hj'), dG_at hj' (hl (w + 1) jj hj')]
    exact o2
  · rw [dG_at (show p < os.length by omega) (hl w p (by omega)), dG_at (show p < os.length by omega) (hl (w + 1) p (by omega))]
    exact o3 p (by rw [List.length_map]; omega) hp
  · obtain ⟨a1, a2⟩ := o4 p (by rw [List.length_map]; exact hp) hjp
    rw [cs_at hp] at a1
    rw [dG_at hp (hl w p hp), dG_at hp (hl (w + 1) p hp)]
    exact ⟨a1, a2⟩
theorem wyT_G (h : p < os.length) : (wyT os w).getD p 0 = oG os p (dG os w p) := by
  have h1 : p < (wyT os w).length := by rw [wyT_len]; exact h
  have h2 : p < (dg (os.map List.length) w).length := by rw [dG_l]; exact h
  rw [List.getD_eq_getElem?_getD, List.getElem?_eq_getElem h1]
  show (wyT os w)[p]'h1 = _
  rw [wyT_at h h1 h2]
  unfold oG
  rw [og_at h, dG_at h h2]
theorem chW_G {CH : Nat → Int32} {hi : Nat} (h : chW os CH w 0 hi) (hl : hi ≤ os.length) : ∀ p, p < hi → CH p = nI (oG os p (dG os w p)) := fun p hp => by
  have h2 : p < (dg (os.map List.length) w).length := by rw [dG_l]; omega
  rw [h p (by omega) h2 (Nat.zero_le _) hp]
  unfold oG
  rw [og_at (show p < os.length by omega), dG_at (show p < os.length by omega) h2]
end OG
set_option maxRecDepth 100000 in
set_option maxHeartbeats 4000000 in
theorem mf_rc_down (L : Nat) (xs : Nat → Int32) (d : Nat) (σ τ : kS) (n b0 b w : Nat) (op : List Nat) (os : List (List Nat)) (h : mTb σ n b0) (hF : mSf σ τ n) (hT : mTb τ n b) (hO : opW σ n op os) (ho : lst (τ 292) op) (hw : w < wyN (os.map List.length)) (x s t : Int32) (my : Int64) (Q : Option Value → kS → Prop)
    (he : ∀ K CH, K ≤ op.length → (∀ p, p < K → CH p = nI (oG os p (dG os w p))) → (∀ p, K ≤ p → p < op.length → CH p = nI (oG os p 0) ∧ dG os w p + 1 = oL os p) → (∀ k, K = k + 1 → dG os w k + 1 < oL os k) → kX kT L xs (d + 3) 217 367 [(10, .int (nI K - 1)), (0, .ref 232), (1, .int x), (2, .int s), (3, .int t), (4, .int (nI op.length)), (5, .long my)] [] (va_up τ 293 CH) Q) :
    ∀ q : Nat × (Nat → Int32), (q.1 ≤ op.length ∧ (∀ p, p < q.1 → q.2 p = nI (oG os p (dG os w p))) ∧ ∀ p, q.1 ≤ p → p < op.length → q.2 p = nI (oG os p 0) ∧ dG os w p + 1 = oL os p) → kX kT L xs (d + 3) 217 314 [(10, .int (nI q.1 - 1)), (0, .ref 232), (1, .int x), (2, .int s), (3, .int t), (4, .int (nI op.length)), (5, .long my)] [] (va_up τ 293 q.2) Q := by
  have hn := hT.1
  obtain ⟨o1, o6, o2⟩ := hO
  refine kX_while (fun q : Nat × (Nat → Int32) => [(10, .int (nI q.1 - 1)), (0, .ref 232), (1, .int x), (2, .int s), (3, .int t), (4, .int (nI op.length)), (5, .long my)]) (fun q => va_up τ 293 q.2) _ (fun q => q.1) ?_
  rintro ⟨K, CH⟩ ⟨i1, i2, i3⟩ ih
  dsimp only at i1 i2 i3 ih ⊢
  rcases Nat.eq_zero_or_pos K with rfl | hK
  · iterate 2 (refine kX_one rfl ?_)
    exact he 0 CH (Nat.zero_le _) i2 i3 (fun k e => by omega)
  · obtain ⟨k, rfl⟩ : ∃ k, K = k + 1 := ⟨K - 1, by omega⟩
    have hk : k < op.length := i1
    obtain ⟨u1, so, s1, s2, s3⟩ := o2 k hk (by omega)
    have hlt := dG_lt hw (show k < os.length by omega)
    have hLk : oL os k = (opL σ so n).length := by
      unfold oL
      rw [og_at (show k < os.length by omega), s3]
    have hG : ∀ j (hj : j < (opL σ so n).length), oG os k j = (opL σ so n)[j]'hj := fun j hj => by
      unfold oG
      rw [og_at (show k < os.length by omega), s3, List.getD_eq_getElem?_getD, List.getElem?_eq_getElem hj]
      rfl
    have w1 : CH k = nI (oG os k (dG os w k)) := i2 k (by omega)
    have hcn : oG os k (dG os w k) < n := by
      rw [hG _ (by omega)]
      exact ((opL_mem σ so n _).mp (List.getElem_mem _)).1
    have hofs := ofs_gS h (mSf_trans hF (mSf_up (σ := τ) (c := 293) (f := CH) (by decide))) s2 s1
    rw [nI_pred]
    iterate 1 (refine kX_one rfl ?_)
    repeat refine kX_one rfl ?_
    refine kX_ifF (decide_eq_false (nI_pos (by omega))) ?_
    iterate 4 (refine kX_one rfl ?_)
    refine kX_ialdV rfl rfl (by decide) (k) (by first | rfl | decide) (by omega) (ho k hk) ?_
    iterate 3 (refine kX_one rfl ?_)
    refine kX_ialdV rfl rfl (by decide) (k) (by first | rfl | decide) (by omega) (w1) ?_
    iterate 2 (refine kX_one rfl ?_)
    refine kX_top (nI_1 (oG os k (dG os w k))) ?_
    refine kX_cal (mr_nextOf L xs d (va_up τ 293 CH) n b op[k] (oG os k (dG os w k) + 1) hT u1 hcn) rfl (Or.inr rfl) rfl rfl rfl (fun r1 σ1 q1 => ?_)
    obtain ⟨hx, rfl⟩ := q1
    obtain ⟨x1, x2⟩ := nx_at (σ := σ) (j := dG os w k + 1) hofs (Or.inr ⟨dG os w k, by omega, rfl, by rw [hG _ (by omega)]⟩) hx
    by_cases hl : dG os w k + 1 < (opL σ so n).length
    · obtain rfl := x1 hl
      have hz : (opL σ so n)[dG os w k + 1]'hl < n := ((opL_mem σ so n _).mp (List.getElem_mem hl)).1
      repeat refine kX_one rfl ?_
      refine kX_ifT (decide_eq_true (Int32.not_lt.mp (nI_pos (by omega)))) ?_
      have := he (k + 1) CH i1 i2 i3 (fun k' e => by
        obtain rfl : k = k' := by omega
        rw [hLk]
        exact hl)
      rw [nI_pred] at this
      exact this
    · obtain rfl := x2 (by omega)
      iterate 8 (refine kX_one rfl ?_)
      refine kX_ialdV rfl rfl (by decide) (k) (by first | rfl | decide) (by omega) (ho k hk) ?_
      iterate 1 (refine kX_one rfl ?_)
      refine kX_cal (mr_nextOf L xs d (va_up τ 293 CH) n b op[k] 0 hT u1 (Nat.zero_le _)) rfl (Or.inr rfl) rfl rfl rfl (fun r1 σ1 q1 => ?_)
      obtain ⟨hx2, rfl⟩ := q1
      have h0 : 0 < (opL σ so n).length := by omega
      obtain rfl := (nx_at (σ := σ) (j := 0) hofs (Or.inl ⟨rfl, rfl⟩) hx2).1 h0
      refine kX_iastN rfl rfl (by decide) (k) (by first | rfl | decide) (by omega) ?_
      iterate 2 (refine kX_one rfl ?_)
      have := ih (k, upd CH k (nI ((opL σ so n)[0]'h0))) ⟨by simp only; omega, fun p hp => by
        simp only at hp ⊢
        rw [pk_un (by omega)]
        exact i2 p (by omega), fun p hp hp' => by
        simp only at hp ⊢
        by_cases e : p = k
        · subst e
          rw [pk_us, hG 0 h0, hLk]
          exact ⟨rfl, by omega⟩
        · rw [pk_un e]
          exact i3 p (by omega) hp'⟩ (by simp only; omega)
      dsimp only at this
      rw [← nI_dec] at this
      refine kX_to _ _ rfl rfl rfl ?_ this
      funext c; unfold  va_up; repeat' split
      all_goals first | rfl | omega | (subst_vars; rfl) | (funext j; unfold upd; repeat' split; all_goals first | rfl | omega | (subst_vars; rfl))
set_option maxRecDepth 100000 in
set_option maxHeartbeats 4000000 in
theorem mf_rc_turn (L : Nat) (xs : Nat → Int32) (d : Nat) (σ τ : kS) (n b0 b w : Nat) (op : List Nat) (os : List (List Nat)) (h : mTb σ n b0) (hF : mSf σ τ n) (hT : mTb τ n b) (hO : opW σ n op os) (ho : lst (τ 292) op) (hw : w < wyN (os.map List.length)) (hC : ∀ p, p < op.length → τ 293 p = nI (oG os p (dG os w p))) (x s t : Int32) (my : Int64) (Q : Option Value → kS → Prop)
    (hend : w + 1 = wyN (os.map List.length) → ∀ CH, kX kT L xs (d + 3) 217 414 [(0, .ref 232), (1, .int x), (2, .int s), (3, .int t)] [] (va_up τ 293 CH) Q)
    (hgo : w + 1 < wyN (os.map List.length) → ∀ CH, (∀ p, p < op.length → CH p = nI (oG os p (dG os (w + 1) p))) → kX kT L xs (d + 3) 217 192 [(7, .int 1), (0, .ref 232), (1, .int x), (2, .int s), (3, .int t), (4, .int (nI op.length)), (5, .long my)] [] (va_up τ 293 CH) Q) :
    kX kT L xs (d + 3) 217 308 [(0, .ref 232), (1, .int x), (2, .int s), (3, .int t), (4, .int (nI op.length)), (5, .long my)] [] τ Q := by
  have hn := hT.1
  obtain ⟨o1, o6, o2⟩ := id hO
  iterate 4 (refine kX_one rfl ?_)
  have hdown := mf_rc_down L xs d σ τ n b0 b w op os h hF hT hO ho hw x s t my Q (fun K CH hK g1 g2 g3 => ?_) (op.length, τ 293) ⟨Nat.le_refl _, hC, fun p hp hp' => absurd hp (by simp only; omega)⟩
  · refine kX_to _ _ rfl rfl rfl ?_ hdown
    funext c; unfold  va_up; repeat' split
    all_goals first | rfl | omega | (subst_vars; rfl) | (funext j; unfold upd; repeat' split; all_goals first | rfl | omega | (subst_vars; rfl))
  · rcases Nat.eq_zero_or_pos K with rfl | hKp
    · have hW : w + 1 = wyN (os.map List.length) := Classical.byContradiction (fun z => by
        obtain ⟨jj, j1, j2, -⟩ := dG_odo (os := os) (w := w) (by omega)
        have := (g2 jj (Nat.zero_le _) (by omega)).2
        omega)
      iterate 9 (refine kX_one rfl ?_)
      exact kX_lv _ rfl rfl rfl (hend hW CH)
    · obtain ⟨k, rfl⟩ : ∃ k, K = k + 1 := ⟨K - 1, by omega⟩
      have hk : k < op.length := hK
      have g3 := g3 k rfl
      have hW : w + 1 < wyN (os.map List.length) := Classical.byContradiction (fun z => by
        have := dG_mx (os := os) (w := w) (p := k) (by omega) (by omega)
        omega)
      obtain ⟨jj, j1, j2, j3, j4, j5⟩ := dG_odo hW
      have ejj : jj = k := by
        rcases Nat.lt_trichotomy jj k with z | z | z
        · have := (j5 k (by omega) z).1
          omega
        · exact z
        · have := (g2 jj (by omega) (by omega)).2
          omega
      subst ejj
      obtain ⟨u1, so, s1, s2, s3⟩ := o2 jj hk (by omega)
      have hLk : oL os jj = (opL σ so n).length := by
        unfold oL
        rw [og_at (show jj < os.length by omega), s3]
      have hG : ∀ j (hj : j < (opL σ so n).length), oG os jj j = (opL σ so n)[j]'hj := fun j hj => by
        unfold oG
        rw [og_at (show jj < os.length by omega), s3, List.getD_eq_getElem?_getD, List.getElem?_eq_getElem hj]
        rfl
      have w1 : CH jj = nI (oG os jj (dG os w jj)) := g1 jj (by omega)
      have hcn : oG os jj (dG os w jj) < n := by
        rw [hG _ (by omega)]
        exact ((opL_mem σ so n _).mp (List.getElem_mem _)).1
      have hofs := ofs_gS h (mSf_trans hF (mSf_up (σ := τ) (c := 293) (f := CH) (by decide))) s2 s1
      rw [nI_pred]
      iterate 1 (refine kX_one rfl ?_)
      repeat refine kX_one rfl ?_
      refine kX_ifF (decide_eq_false (nI_pos (by omega))) ?_
      iterate 12 (refine kX_one rfl ?_)
      refine kX_ialdV rfl rfl (by decide) (jj) (by first | rfl | decide) (by omega) (ho jj hk) ?_
      iterate 3 (refine kX_one rfl ?_)
      refine kX_ialdV rfl rfl (by decide) (jj) (by first | rfl | decide) (by omega) (w1) ?_
      iterate 2 (refine kX_one rfl ?_)
      refine kX_top (nI_1 (oG os jj (dG os w jj))) ?_
      refine kX_cal (mr_nextOf L xs d (va_up τ 293 CH) n b op[jj] (oG os jj (dG os w jj) + 1) hT u1 hcn) rfl (Or.inr rfl) rfl rfl rfl (fun r1 σ1 q1 => ?_)
      obtain ⟨hx, rfl⟩ := q1
      have hl : dG os w jj + 1 < (opL σ so n).length := by omega
      obtain rfl := (nx_at (σ := σ) (j := dG os w jj + 1) hofs (Or.inr ⟨dG os w jj, by omega, rfl, by rw [hG _ (by omega)]⟩) hx).1 hl
      refine kX_iastN rfl rfl (by decide) (jj) (by first | rfl | decide) (by omega) ?_
      iterate 1 (refine kX_one rfl ?_)
      refine kX_to [(7, .int 1), (0, .ref 232), (1, .int x), (2, .int s), (3, .int t), (4, .int (nI op.length)), (5, .long my)] (va_up τ 293 (upd CH jj (nI ((opL σ so n)[dG os w jj + 1]'hl)))) rfl rfl rfl ?_ (hgo hW _ (fun p hp => ?_))
      · funext c; unfold  va_up; repeat' split
        all_goals first | rfl | omega | (subst_vars; rfl) | (funext j; unfold upd; repeat' split; all_goals first | rfl | omega | (subst_vars; rfl))
      · by_cases e : p = jj
        · subst e
          rw [pk_us, j3, hG _ hl]
        · rw [pk_un e]
          by_cases e2 : p < jj
          · rw [j4 p e2]
            exact g1 p (by omega)
          · rw [(j5 p (by omega) (by omega)).2]
            exact (g2 p (by omega) hp).1
end
section
/-! alike: receives, all of it -/
theorem wy_aV {σ : kS} {n b R s r dn t w : Nat} {a : Nat → Int32} (h : mTb σ n b) (hR : mRo σ n R) (r1 : r < R) (hdn : dn < fN (σ 247 r)) (ht : t < n) (het : σ 248 (6 * r + dn) = nI t) (hw : w < wyN ((owO σ n r dn).map List.length)) : (∀ p (hp : p < (bls σ r dn).length), aV (aWy σ n r dn s a w) (6 * s + fN (σ 241 ((bls σ r dn)[p]'hp))) = nI (oG (owO σ n r dn) p (dG (owO σ n r dn) w p))) ∧ ∀ u k, k < 6 → (∀ p (h : p < (bls σ r dn).length), 6 * u + k ≠ 6 * s + fN (σ 241 ((bls σ r dn)[p]'h))) → aV (aWy σ n r dn s a w) (6 * u + k) = aV a (6 * u + k) := by
  have hn := h.1
  obtain ⟨b1, b2, b3, b4, b5⟩ := bls_ok h hR r1 hdn het ht
  obtain ⟨l1, l2, l3⟩ := ow_len σ n r dn w
  have hfk : ∀ u ∈ bls σ r dn, fN (σ 241 u) < 6 := fun u hu => by
    obtain ⟨-, ⟨k, k1, k2⟩, -⟩ := b3 u hu
    rw [k2, fN_nI (by omega)]
    exact k1
  refine ⟨fun p hp => ?_, fun u k hk hne => ?_⟩
  · have hin := wyT_in hw (j := p) (by omega) (by omega)
    have e1 : (owO σ n r dn)[p]'(by omega) = opL σ (fN (σ 240 ((bls σ r dn)[p]'hp))) n := by
      simp only [owO, List.getElem_map]
    rw [e1, opL_mem] at hin
    have e2 := wyT_G (os := owO σ n r dn) (w := w) (p := p) (by omega)
    rw [List.getD_eq_getElem?_getD, List.getElem?_eq_getElem (show p < (wyT (owO σ n r dn) w).length by omega)] at e2
    have e2 : (wyT (owO σ n r dn) w)[p]'(by omega) = oG (owO σ n r dn) p (dG (owO σ n r dn) w p) := e2
    have := hin.1
    rw [aV_at _ (hfk _ (List.getElem_mem hp)), aWy_at (ow_pw h hR r1 hdn het ht) hp (by omega), nnI_nI (by omega), e2]
  · rw [aV_at _ hk, aWy_ne (fun v hv => ?_), ← aV_at _ hk, aUp_V a s hk]
    obtain ⟨p, hp', rfl⟩ := List.getElem_of_mem hv
    have := hne p hp'
    have := hfk _ hv
    omega
section TK
variable {σ ρ : kS} {n b R S C i : Nat} {kl : List Nat} {x : sX} {a D V : Nat → Int32}
theorem tk_st (hT : mTb σ n b) (hB : mBs σ n R S C kl) (hY : mY σ ρ n R S x) (hi : i < x.1.length) (hai : (xq x.1 i).1 = a) (hD : ∀ u, u < S → D u = ρ 284 (4 * i + u)) (hV : ∀ u k, u < S → k < 6 → V (6 * u + k) = ρ 285 (24 * i + 6 * u + k)) : mY σ (va_up (va_up ρ 264 D) 265 V) n R S x ∧ aSt (va_up (va_up ρ 264 D) 265 V) S a := by
  refine ⟨mY_up hT hB (mY_up hT hB hY (Or.inl rfl)) (Or.inr (Or.inl rfl)), fun s hs => ?_, fun s k hs hk => ?_⟩
  · show D s = _
    rw [hD s hs, ← hai]
    exact (hY.2.2.2.1 i hi).1 s hs
  · show V (6 * s + k) = _
    rw [hV s k hs hk, ← hai, ← (hY.2.2.2.1 i hi).2.1 s k hs hk]
    unfold stV
    rw [show 24 * i + (6 * s + k) = 24 * i + 6 * s + k by omega]
/-- .. and its row -/
theorem tk_row {υ ω : kS} {b' : Nat} {l : rwT} (hT : mTb σ n b) (hB : mBs σ n R S C kl) (hY : mY σ υ n R S x) (ha : aOk σ n R S a) (hs : aSt υ S a) (hb : b' ≤ 776) (hm : mBd υ ω n b' l (trSt υ kl S)) : mY σ ω n R S x ∧ aSt ω S a ∧ rwY ω n (trSt (stI σ a) kl S) ∧ ω 292 = υ 292 ∧ ω 293 = υ 293 := by
  obtain ⟨f1, f2, f3, f4, f5⟩ := hm
  refine ⟨mY_fr hT hB hY f1 ⟨b', f2⟩, ⟨fun s h => ?_, fun s k h hk => ?_⟩, ⟨b', l, hb, f2, f3, f4, ?_⟩, f1.1 _ (by decide), f1.1 _ (by decide)⟩
  · rw [f1.1 264 (by decide)]
    exact hs.1 s h
  · rw [f1.1 265 (by decide)]
    exact hs.2 s k h hk
  · rw [f5]
    exact tr_st hT hB hY.1 ha hs
end TK
theorem rY_ne {C : Nat} {x : sX} {r : Option Value} (hC : C ≤ 6) (h : rY C x r) : (x.2.2.2 = 0 ↔ r = some (.int (-6))) := by
  rcases h with ⟨q1, q2⟩ | ⟨q1, q2⟩ | ⟨c, c1, c2, c3, -⟩
  · exact ⟨fun _ => q2, fun _ => q1⟩
  · refine ⟨fun z => ?_, fun z => ?_⟩
    · rw [q1] at z
      exact absurd z (by decide)
    · rw [q2] at z
      exact absurd (Value.int.inj (Option.some.inj z)) (by decide)
  · refine ⟨fun z => ?_, fun z => ?_⟩
    · rw [c2] at z
      exact absurd z (nI_ne0 (by omega) (by omega))
    · rw [c3] at z
      have z := Value.int.inj (Option.some.inj z)
      exact absurd (show nI c < 0 by rw [z]; decide) (nI_pos (by omega))
/-- how the loop over the ways stands -/
def ryI (σ τ : kS) (n R S s : Nat) (x : sX) (a : Nat → Int32) (op : List Nat) (os : List (List Nat)) (tr : trT) (w : Nat) : Prop := mY σ τ n R S x ∧ lst (τ 292) op ∧ rwY τ n tr ∧ (∀ u, u < S → τ 264 u = aD a u) ∧ (∀ u k, u < S → k < 6 → (∀ p (h : p < op.length), 6 * u + k ≠ 6 * s + fN (σ 241 (op[p]'h))) → τ 265 (6 * u + k) = aV a (6 * u + k)) ∧ ∀ p, p < op.length → τ 293 p = nI (oG os p (dG os w p))
/-- what receives leaves -/
def rcY (σ ω : kS) (n R S C : Nat) (kl : List Nat) (a : Nat → Int32) (X : sX) (r : Option Value) : Prop := mY σ ω n R S X ∧ rY C X r ∧ (X.2.2.2 = 0 → aSt ω S a ∧ rwY ω n (trSt (stI σ a) kl S))
set_option maxRecDepth 100000 in
set_option maxHeartbeats 4000000 in
theorem mY_rc_main (L : Nat) (xs : Nat → Int32) (d : Nat) (σ : kS) (n b R S C i s r dn t W : Nat) (kl : List Nat) (a : Nat → Int32) (X : sX) (hT : mTb σ n b) (hB : mBs σ n R S C kl) (ha : aOk σ n R S a) (hs : s < S) (r1 : r < R) (r2 : σ 255 s = nI r) (r3 : a (7 * s) = nI dn) (hdn : dn < fN (σ 247 r)) (hse : σ 249 (6 * r + dn) = 0) (ht : t < n) (het : σ 248 (6 * r + dn) = nI t) (hW : wyN ((owO σ n r dn).map List.length) = W) (hi6 : i < 600) (my : Int64) :
    ∀ q : Nat × kS × sX, (q.1 < W ∧ q.2.2.2.2.2 = 0 ∧ (i < q.2.2.1.length ∧ (xq q.2.2.1 i).1 = a) ∧ sWy σ kl S C i s a t (owP σ r dn) (owO σ n r dn) (W - q.1) q.1 q.2.2 = X ∧ ryI σ q.2.1 n R S s q.2.2 a (bls σ r dn) (owO σ n r dn) (trSt (stI σ a) kl S) q.1) → kX kT L xs (d + 9) 217 192 [(7, .int 1), (0, .ref 232), (1, .int (nI i)), (2, .int (nI s)), (3, .int (nI t)), (4, .int (nI (bls σ r dn).length)), (5, .long my)] [] q.2.1 (fun r σ' => rcY σ σ' n R S C kl a X r) := by
  have hn := hT.1
  have hR := hB.1
  have hS4 := hB.2.1.1
  have hR4 := hR.1
  have hC6 : C ≤ 6 := hB.2.2.2.1
  have he6 : fN (σ 247 r) ≤ 6 := by
    obtain ⟨-, e, e1, e2⟩ := hR.2.2.1 r r1
    rw [e2, fN_nI (by omega)]
    exact e1
  obtain ⟨bo1, bo2, bo3, bo4, bo5⟩ := bls_ok hT hR r1 hdn het ht
  have lO : (owO σ n r dn).length = (bls σ r dn).length := (ow_len σ n r dn 0).2.1
  have hO : opW σ n (bls σ r dn) (owO σ n r dn) := ⟨lO, bo5, fun p hp hp' => by
    obtain ⟨u1, -, so, s1, s2⟩ := bo3 _ (List.getElem_mem hp)
    refine ⟨by omega, so, s1, s2, ?_⟩
    simp only [owO, List.getElem_map]
    rw [s2, fN_nI (by omega)]⟩
  have hN : opN σ (bls σ r dn) := ⟨fun p hp => by
    obtain ⟨u1, u2, -⟩ := bo3 _ (List.getElem_mem hp)
    exact ⟨by omega, u2⟩, fun p q hp hq hpq => bo4 _ (List.getElem_mem hp) _ (List.getElem_mem hq) (fun e => by
      rcases Nat.lt_or_gt_of_ne hpq with hh | hh
      · exact List.pairwise_iff_getElem.mp bo2 p q hp hq hh e
      · exact List.pairwise_iff_getElem.mp bo2 q p hq hp hh e.symm)⟩
  refine kX_while (fun q : Nat × kS × sX => [(7, .int 1), (0, .ref 232), (1, .int (nI i)), (2, .int (nI s)), (3, .int (nI t)), (4, .int (nI (bls σ r dn).length)), (5, .long my)]) (fun q => q.2.1) _ (fun q => W - q.1) ?_
  rintro ⟨w, τ, x⟩ ⟨i1, i2, ⟨i3, i3'⟩, i4, i5⟩ ih
  dsimp only at i1 i2 i3 i3' i4 i5 ih ⊢
  obtain ⟨j1, j2, ⟨bt, l, c1, c2, c3, c4, c5⟩, j4, j5, j6⟩ := i5
  have hF := j1.1
  have hwW : w < wyN ((owO σ n r dn).map List.length) := by rw [hW]; exact i1
  obtain ⟨ok1, ok2, ok3⟩ := aOk_way hT hR ha hs r1 r2 r3 hdn hse ht het hwW
  obtain ⟨va1, va2⟩ := wy_aV (s := s) (a := a) hT hR r1 hdn ht het hwW
  obtain ⟨m', hm'⟩ : ∃ m', W - w = m' + 1 := ⟨W - w - 1, by omega⟩
  rw [hm', sWy_s i2] at i4
  have hofn : τ 241 = σ 241 := hF.1 _ (by decide) (by decide)
  /- the turn, with what came to be -/
  have k308 : ∀ ρ x2, x2 = sW1 σ kl n S C i s a r dn t w x → x2.2.2.2 = 0 → mY σ ρ n R S x2 → lst (ρ 292) (bls σ r dn) → rwY ρ n (trSt (stI σ a) kl S) → (∀ u, u < S → ρ 264 u = aD a u) → (∀ u k, u < S → k < 6 → (∀ p (h : p < (bls σ r dn).length), 6 * u + k ≠ 6 * s + fN (σ 241 ((bls σ r dn)[p]'h))) → ρ 265 (6 * u + k) = aV a (6 * u + k)) → ρ 293 = τ 293 → kX kT L xs (d + 9) 217 308 [(0, .ref 232), (1, .int (nI i)), (2, .int (nI s)), (3, .int (nI t)), (4, .int (nI (bls σ r dn).length)), (5, .long my)] [] ρ (fun r σ' => rcY σ σ' n R S C kl a X r) := by
    intro ρ x2 e0 ez e1 e2 ⟨b2, l2, g1, g2, g3, g4, g5⟩ e4 e5 e6
    have hpre := sW1_pre (σ := σ) (kl := kl) (n := n) (S := S) (C := C) (i := i) (s := s) (r := r) (dn := dn) (t := t) (w := w) (a := a) i3
    rw [← e0] at hpre i4
    have hai2 : (xq x2.1 i).1 = a := by rw [hpre.2]; exact i3'
    refine mf_rc_turn L xs (d + 6) σ ρ n b b2 w (bls σ r dn) (owO σ n r dn) hT e1.1 g2 hO e2 hwW (by rw [e6]; exact j6) (nI i) (nI s) (nI t) my _ (fun hlast CH => ?_) (fun hgo CH hCH => ?_)
    · have hx2 : x2 = X := by
        rw [show m' = 0 by omega] at i4
        exact i4
      have hse2 : (va_up ρ 293 CH) 232 27 = nI S := (e1.1.2.1 _ (by decide) (by decide)).trans hB.2.1.2.1
      iterate 2 (refine kX_one rfl ?_)
      refine kX_cal (mr_takeState L xs (d + 7) (va_up ρ 293 CH) S i hse2 hS4 hi6) rfl (Or.inr rfl) rfl rfl rfl (fun r1 σ3 q1 => ?_)
      obtain ⟨rfl, D, V, rfl, hD, hV⟩ := q1
      obtain ⟨y1, y2⟩ := tk_st hT hB (mY_up (f := CH) hT hB e1 (Or.inr (Or.inr (Or.inr rfl)))) hpre.1 hai2 hD hV
      subst hx2
      repeat refine kX_one rfl ?_
      refine kX_ret (i := .ireturn) (len := 1) rfl (Or.inr rfl) rfl ⟨y1, Or.inl ⟨ez, rfl⟩, fun _ => ⟨y2, b2, l2, g1, g2, g3, g4, g5⟩⟩
    · exact ih (w + 1, va_up ρ 293 CH, x2) ⟨by simp only; omega, ez, ⟨hpre.1, hai2⟩, by simp only; rw [show W - (w + 1) = m' by omega]; exact i4, mY_up hT hB e1 (Or.inr (Or.inr (Or.inr rfl))), e2, ⟨b2, l2, g1, g2, g3, g4, g5⟩, e4, e5, hCH⟩ (by simp only; omega)
  iterate 4 (refine kX_one rfl ?_)
  have hset := mr_rc_set L xs (d + 8) τ s (bls σ r dn) (fun p => oG (owO σ n r dn) p (dG (owO σ n r dn) w p)) (by omega) bo5 (by unfold opN; rw [hofn]; exact hN) j2 (fun p hp => j6 p hp) (nI i) (nI t) 1 my (fun r σ' => rcY σ σ' n R S C kl a X r) (fun V hV => ?_) (0, τ 265) ⟨Nat.zero_le _, fun p hp h0 => absurd h0 (Nat.not_lt_zero p), fun j _ => rfl⟩
  · refine kX_to _ _ rfl rfl rfl ?_ hset
    funext c; unfold  va_up; repeat' split
    all_goals first | rfl | omega | (subst_vars; rfl) | (funext j; unfold upd; repeat' split; all_goals first | rfl | omega | (subst_vars; rfl))
  · unfold opV at hV
    rw [hofn] at hV
    have hval : ∀ u k, u < S → k < 6 → V (6 * u + k) = aV (aWy σ n r dn s a w) (6 * u + k) := fun u k hu hk => by
      by_cases q : ∀ p (h : p < (bls σ r dn).length), 6 * u + k ≠ 6 * s + fN (σ 241 ((bls σ r dn)[p]'h))
      · rw [va2 u k hk q, hV.2 _ q]
        exact j5 u k hu hk q
      · obtain ⟨p, hp, e⟩ : ∃ p, ∃ (h : p < (bls σ r dn).length), 6 * u + k = 6 * s + fN (σ 241 ((bls σ r dn)[p]'h)) := Classical.byContradiction (fun z => q (fun p hp e => z ⟨p, hp, e⟩))
        rw [e, va1 p hp, hV.1 p hp hp]
    have etv : tvs (τ 233) (τ 234) (τ 235) t = tvs (σ 233) (σ 234) (σ 235) t := (mFr_all hT (pat_fr hF) ht).2.2
    have hvz : ∀ u ∈ tvs (σ 233) (σ 234) (σ 235) t, ∃ p z, p < 6 ∧ z < n ∧ σ 241 u = nI p ∧ aV (aWy σ n r dn s a w) (6 * s + p) = nI z ∧ V (6 * s + p) = nI z ∧ tgd (σ 233) (σ 234) (σ 235) z = true ∧ (σ 240 u = nI 0 → σ 233 z = nI 0) := fun u hu => by
      obtain ⟨p, z, p1, p2, p3, p4, p5, p6⟩ := ok3 u hu
      exact ⟨p, z, p1, p2, p3, p4, by rw [hval s p hs p1]; exact p4, p5, p6⟩
    have hst : mSt (va_up τ 265 V) n s t := by
      intro u hu
      have hu : u ∈ tvs (τ 233) (τ 234) (τ 235) t := hu
      rw [etv] at hu
      obtain ⟨p, z, p1, p2, p3, -, p4, p5, p6⟩ := hvz u hu
      have etg : tgd (τ 233) (τ 234) (τ 235) z = tgd (σ 233) (σ 234) (σ 235) z := (mFr_all hT (pat_fr hF) p2).2.1
      refine ⟨p, z, p1, p2, ?_, p4, etg.trans p5, ?_⟩
      · show τ 241 u = _
        rw [hofn]
        exact p3
      · show τ 240 u = _ → τ 233 z = _
        rw [hF.1 240 (by decide) (by decide), (hF.2.2 z (by omega)).1]
        exact p6
    have htin : tin (va_up τ 265 V) s t = tin (stI σ (aWy σ n r dn s a w)) s t := tin_cg (σ := stI σ (aWy σ n r dn s a w)) (τ := va_up τ 265 V) (b := b) hT (fun u hu => hF.2.2 u (by omega)) hofn t ht (fun u hu => by
      obtain ⟨p, z, p1, p2, p3, p4, p5, -⟩ := hvz u hu
      exact ⟨p, z, p1, p2, p3, p4, p5⟩)
    have htrM : trM (va_up τ 265 V) (rwM (va_up τ 265 V) l) (tin (va_up τ 265 V) s t) = trM σ (trSt (stI σ a) kl S) (tin (stI σ (aWy σ n r dn s a w)) s t) := by
      have e1 : rwM (va_up τ 265 V) l = trSt (stI σ a) kl S := c5
      have e2 : mA (va_up τ 265 V) = mA σ := mA_cg (σ := σ) (τ := va_up τ 265 V) hF.2.2
      have e3 : (va_up τ 265 V) 238 = σ 238 := hF.1 _ (by decide) (by decide)
      unfold trM
      rw [e1, htin, e2, e3]
    refine mf_rc_try L xs (d + 3) (va_up τ 265 V) n bt s t l c2 c1 c3 c4 (by omega) ht hst (nI i) (nI (bls σ r dn).length) 1 my (fun r σ' => rcY σ σ' n R S C kl a X r) (fun ρ hFr hTr hqr hjr hrw => ?_)
    rw [htrM]
    have hYr : mY σ ρ n R S x := mY_fr hT hB (mY_up (f := V) hT hB j1 (Or.inr (Or.inl rfl))) hFr ⟨bt, hTr⟩
    have hrwr : rwY ρ n (trSt (stI σ a) kl S) := ⟨bt, l, c1, hTr, hqr, hjr, hrw.trans c5⟩
    have edo : ρ 264 = τ 264 := hFr.1 _ (by decide)
    have eva : ρ 265 = V := hFr.1 _ (by decide)
    have eop : ρ 292 = τ 292 := hFr.1 _ (by decide)
    have ech : ρ 293 = τ 293 := hFr.1 _ (by decide)
    by_cases hcan : trM σ (trSt (stI σ a) kl S) (tin (stI σ (aWy σ n r dn s a w)) s t)
    · rw [isB_T hcan]
      have hw1 : sW1 σ kl n S C i s a r dn t w x = sRe σ kl S C x (aWy σ n r dn s a w) (nI i) (nI s) := by
        unfold sW1
        rw [cit_T hcan]
      have hds : ρ 264 s = nI dn := by
        rw [edo, j4 s hs]
        exact r3
      have hst2 : aSt (va_up ρ 264 (upd (ρ 264) s (nI (dn + 1)))) S (aWy σ n r dn s a w) := by
        refine ⟨fun u hu => ?_, fun u k hu hk => ?_⟩
        · show upd (ρ 264) s (nI (dn + 1)) u = _
          have := ok2.2 u hu
          by_cases e : u = s
          · subst e
            rw [pk_us, (this.2 rfl).1]
            show _ = a (7 * u) + 1
            rw [r3, nI_1]
          · rw [pk_un e, (this.1 e).1, edo]
            exact j4 u hu
        · show ρ 265 (6 * u + k) = _
          rw [eva]
          exact hval u k hu hk
      iterate 6 (refine kX_one rfl ?_)
      refine kX_ialdV rfl rfl (by decide) (s) (by first | rfl | decide) (by omega) (hds) ?_
      iterate 2 (refine kX_one rfl ?_)
      refine kX_top (nI_1 dn) ?_
      refine kX_iastN rfl rfl (by decide) (s) (by first | rfl | decide) (by omega) ?_
      have hcom := mY_comes L xs d σ (va_up ρ 264 (upd (ρ 264) s (nI (dn + 1)))) n b R S C kl x (aWy σ n r dn s a w) (nI i) (nI s) hT hB (mY_up hT hB hYr (Or.inl rfl)) ok1 hst2 i2 (Or.inr ⟨i, s, i3, rfl, rfl, by rw [i3']; exact ok2⟩)
      have eop1 : (va_up ρ 264 (upd (ρ 264) s (nI (dn + 1)))) 292 = τ 292 := eop
      have ech1 : (va_up ρ 264 (upd (ρ 264) s (nI (dn + 1)))) 293 = τ 293 := ech
      rw [← hw1] at hcom
      generalize va_up ρ 264 (upd (ρ 264) s (nI (dn + 1))) = ρ1 at *
      iterate 3 (refine kX_one rfl ?_)
      refine kX_cal hcom rfl (Or.inr rfl) rfl rfl rfl (fun r1 ω q1 => ?_)
      obtain ⟨z1, z2, -, -, z5, z6⟩ := q1
      have hne := rY_ne hC6 z2
      have hpre := sW1_pre (σ := σ) (kl := kl) (n := n) (S := S) (C := C) (i := i) (s := s) (r := r) (dn := dn) (t := t) (w := w) (a := a) i3
      have hret : ∀ v : Int32, r1 = some (.int v) → v ≠ -6 → rcY σ ω n R S C kl a X (some (.int v)) := fun v hv hv6 => by
        have hnz : (sW1 σ kl n S C i s a r dn t w x).2.2.2 ≠ 0 := fun z => by
          have := hne.mp z
          rw [hv] at this
          exact hv6 (Value.int.inj (Option.some.inj this))
        rw [sWy_n hnz] at i4
        rw [← i4, ← hv]
        exact ⟨z1, z2, fun z => absurd z hnz⟩
      have k299 : (sW1 σ kl n S C i s a r dn t w x).2.2.2 = 0 → ∀ lv, nk lv = true → ([(0, .ref 232), (1, .int (nI i)), (2, .int (nI s)), (3, .int (nI t)), (4, .int (nI (bls σ r dn).length)), (5, .long my)] : jL).map (fun q => jl lv q.1) = ([(0, Value.ref 232), (1, .int (nI i)), (2, .int (nI s)), (3, .int (nI t)), (4, .int (nI (bls σ r dn).length)), (5, .long my)] : jL).map (fun q => some q.2) → kX kT L xs (d + 9) 217 299 lv [] ω (fun r σ' => rcY σ σ' n R S C kl a X r) := by
        intro hz lv hk hlv
        refine kX_lv _ hk rfl hlv ?_
        have hse2 : ω 232 27 = nI S := (z1.1.2.1 _ (by decide) (by decide)).trans hB.2.1.2.1
        iterate 2 (refine kX_one rfl ?_)
        refine kX_cal (mr_takeState L xs (d + 7) ω S i hse2 hS4 hi6) rfl (Or.inr rfl) rfl rfl rfl (fun r1 σ3 q1 => ?_)
        obtain ⟨rfl, D, V2, rfl, hD, hV2⟩ := q1
        obtain ⟨y1, y2⟩ := tk_st (a := a) hT hB z1 hpre.1 (by rw [hpre.2]; exact i3') hD hV2
        have yop : (va_up (va_up ω 264 D) 265 V2) 292 = ω 292 := rfl
        have ych : (va_up (va_up ω 264 D) 265 V2) 293 = ω 293 := rfl
        generalize va_up (va_up ω 264 D) 265 V2 = υ at *
        obtain ⟨bu, hTu⟩ := y1.2.1
        have hBu := mBs_sf hT y1.1 hB
        iterate 1 (refine kX_one rfl ?_)
        refine kX_cal (mr_stateRow L xs (d + 1) υ n bu R S kl hTu hBu.2.2.1 hBu.1 hS4 (cfg_Sv hTu hBu.1 hBu.2.1 (cfg_st hT hR y1.1 ha y2))) rfl (Or.inr rfl) rfl rfl rfl (fun r1 κ q1 => ?_)
        obtain ⟨rfl, -, b', l', hb', hbd⟩ := q1
        obtain ⟨t1, t2, t3, t4, t5⟩ := tk_row hT hB y1 ha y2 hb' hbd
        refine kX_lv _ rfl rfl rfl (k308 κ _ rfl hz t1 (by rw [t4, yop, z5, eop1]; exact j2) t3 t2.1 (fun u k hu hk _ => t2.2 u k hu hk) (by rw [t5, ych, z6, ech1]))
      rcases z2 with ⟨q1, rfl⟩ | ⟨q1, rfl⟩ | ⟨c, hc1, hc2, rfl, -⟩
      · iterate 4 (refine kX_one rfl ?_)
        exact k299 q1 _ rfl rfl
      · repeat refine kX_one rfl ?_
        refine kX_ret (i := .ireturn) (len := 1) rfl (Or.inr rfl) rfl (hret _ rfl (by decide))
      · have h0 : ¬ nI c < 0 := nI_pos (by omega)
        have h6 : nI c ≠ -6 := fun e => h0 (by rw [e]; decide)
        repeat refine kX_one rfl ?_
        refine kX_if (fun q => ?_) (fun q => ?_)
        · exact absurd (qeq q) h6
        · repeat refine kX_one rfl ?_
          refine kX_ret (i := .ireturn) (len := 1) rfl (Or.inr rfl) rfl (hret _ rfl h6)
    · rw [isB_F hcan]
      have hw1 : x = sW1 σ kl n S C i s a r dn t w x := by
        unfold sW1
        rw [cit_F hcan]
      iterate 2 (refine kX_one rfl ?_)
      refine kX_lv _ rfl rfl rfl (k308 ρ x hw1 i2 hYr (by rw [eop]; exact j2) hrwr (fun u hu => by rw [edo]; exact j4 u hu) (fun u k hu hk hne => ?_) ech)
      rw [eva, hV.2 _ hne]
      exact j5 u k hu hk hne
end
section
/-! alike: receives, goesOn -/
theorem mY_ways {σ τ : kS} {n b R S C k : Nat} {kl : List Nat} {x : sX} {an : Int32} (hT : mTb σ n b) (hB : mBs σ n R S C kl) (hY : mY σ τ n R S x) (hk : k ≤ 20001) : mY σ (va_up τ 232 (upd (τ 232) 70 (nI k))) n R S (x.1, k, x.2.2.1, an) := by
  obtain ⟨h1, ⟨b1, h2⟩, h3, h4, ⟨w1, w2, w3⟩, h5⟩ := hY
  have hF : mSf τ (va_up τ 232 (upd (τ 232) 70 (nI k))) n := mSf_o (by decide)
  exact ⟨mSf_trans h1 hF, ⟨b1, h2⟩, mSs_sf h2 (mSf_Ro hT h1 hB.1) hF rfl rfl rfl rfl rfl h3, h4, ⟨rfl, hk, w3⟩, h5⟩
set_option maxRecDepth 100000 in
set_option maxHeartbeats 4000000 in
theorem mY_rc_go (L : Nat) (xs : Nat → Int32) (d : Nat) (σ τ : kS) (n b R S C i s r dn t W : Nat) (kl : List Nat) (x : sX) (a : Nat → Int32) (X : sX) (hT : mTb σ n b) (hB : mBs σ n R S C kl) (ha : aOk σ n R S a) (hs : s < S) (r1 : r < R) (r2 : σ 255 s = nI r) (r3 : a (7 * s) = nI dn) (hdn : dn < fN (σ 247 r)) (hse : σ 249 (6 * r + dn) = 0) (ht : t < n) (het : σ 248 (6 * r + dn) = nI t) (hW : wyN ((owO σ n r dn).map List.length) = W) (hi6 : i < 600) (hi : i < x.1.length) (hai : (xq x.1 i).1 = a) (han : x.2.2.2 = 0) (hY : mY σ τ n R S x) (hst : aSt τ S a) (hrw : rwY τ n (trSt (stI σ a) kl S)) (ho : lst (τ 292) (bls σ r dn)) (hXe : X = cit (20000 < x.2.1 + W) (x.1, 20001, x.2.2.1, -7) (sWy σ kl S C i s a t (owP σ r dn) (owO σ n r dn) W 0 (x.1, x.2.1 + W, x.2.2.1, x.2.2.2))) :
    kX kT L xs (d + 9) 217 107 [(0, .ref 232), (1, .int (nI i)), (2, .int (nI s)), (3, .int (nI t)), (4, .int (nI (bls σ r dn).length)), (5, .long (lI (min W 20001)))] [] τ (fun r σ' => rcY σ σ' n R S C kl a X r) := by
  obtain ⟨w1, w2, w3⟩ := hY.2.2.2.2.1
  obtain ⟨bo1, bo2, bo3, bo4, bo5⟩ := bls_ok hT hB.1 r1 hdn het ht
  have lO : (owO σ n r dn).length = (bls σ r dn).length := (ow_len σ n r dn 0).2.1
  have hn := hT.1
  have hO : opW σ n (bls σ r dn) (owO σ n r dn) := ⟨lO, bo5, fun p hp hp' => by
    obtain ⟨u1, -, so, s1, s2⟩ := bo3 _ (List.getElem_mem hp)
    refine ⟨by omega, so, s1, s2, ?_⟩
    simp only [owO, List.getElem_map]
    rw [s2, fN_nI (by omega)]⟩
  have hMle : min W 20001 ≤ 20001 := Nat.min_le_right _ _
  have hsum : (nI x.2.1).toInt64 + lI (min W 20001) = lI (x.2.1 + min W 20001) := by
    rw [nI_lI (by omega), lI_add]
  iterate 2 (refine kX_one rfl ?_)
  refine kX_top (w1) ?_
  iterate 5 (refine kX_one rfl ?_)
  repeat refine kX_one rfl ?_
  refine kX_if (fun q => ?_) (fun q => ?_)
  · have q : lg_cmp ((nI x.2.1).toInt64 + lI (min W 20001)) 20000 ≤ 0 := of_decide_eq_true q
    rw [hsum, lc_le (by omega)] at q
    have hWl : W ≤ 20000 := by omega
    rw [Nat.min_eq_left (show W ≤ 20001 by omega)] at q ⊢
    rw [cit_F (by omega)] at hXe
    have hY2 : mY σ (va_up τ 232 (upd (τ 232) 70 (nI (x.2.1 + W)))) n R S (x.1, x.2.1 + W, x.2.2.1, x.2.2.2) := mY_ways hT hB hY (by omega)
    have hst2 : aSt (va_up τ 232 (upd (τ 232) 70 (nI (x.2.1 + W)))) S a := hst
    have hrw2 : rwY (va_up τ 232 (upd (τ 232) 70 (nI (x.2.1 + W)))) n (trSt (stI σ a) kl S) := hrw
    have ho2 : lst ((va_up τ 232 (upd (τ 232) 70 (nI (x.2.1 + W)))) 292) (bls σ r dn) := ho
    iterate 3 (refine kX_one rfl ?_)
    refine kX_top (w1) ?_
    iterate 3 (refine kX_one rfl ?_)
    refine kX_top (y := nI (x.2.1 + W)) (by rw [lI_32 (by omega)]; exact nI_add x.2.1 W) ?_
    iterate 1 (refine kX_one rfl ?_)
    generalize va_up τ 232 (upd (τ 232) 70 (nI (x.2.1 + W))) = ρ at *
    have hl0 : lg_cmp (lI W) 0 ≠ 0 ↔ W ≠ 0 := by
      have e : (0 : Int64) = lI 0 := by decide
      rw [e]
      refine ⟨fun z e2 => z (by rw [e2]; decide), fun z e2 => ?_⟩
      unfold lg_cmp at e2
      rw [if_pos (show lI W > lI 0 by show lI 0 < lI W; rw [Int64.lt_iff_toInt_lt, lI_toInt (by omega), lI_toInt (by omega)]; omega)] at e2
      exact absurd e2 (by decide)
    iterate 3 (refine kX_one rfl ?_)
    repeat refine kX_one rfl ?_
    refine kX_if (fun q2 => ?_) (fun q2 => ?_)
    · have q2 : W ≠ 0 := hl0.mp (qne q2)
      obtain ⟨bt, hTt⟩ := hY2.2.1
      iterate 2 (refine kX_one rfl ?_)
      have := mf_rc_first L xs (d + 6) σ ρ n b bt (bls σ r dn) (owO σ n r dn) hT hY2.1 hTt hO ho2 (wyN_0 (by omega)) (nI i) (nI s) (nI t) (lI W) (fun r σ' => rcY σ σ' n R S C kl a X r) (fun CH hC => ?_) (0, ρ 293) ⟨Nat.zero_le _, fun p _ _ _ hp => absurd hp (Nat.not_lt_zero p)⟩
      · refine kX_to _ _ rfl rfl rfl ?_ this
        funext c; unfold  va_up; repeat' split
        all_goals first | rfl | omega | (subst_vars; rfl) | (funext j; unfold upd; repeat' split; all_goals first | rfl | omega | (subst_vars; rfl))
      · iterate 2 (refine kX_one rfl ?_)
        have := mY_rc_main L xs d σ n b R S C i s r dn t W kl a X hT hB ha hs r1 r2 r3 hdn hse ht het hW hi6 (lI W) (0, va_up ρ 293 CH, (x.1, x.2.1 + W, x.2.2.1, x.2.2.2)) ⟨by simp only; omega, han, ⟨hi, hai⟩, hXe.symm, mY_up hT hB hY2 (Or.inr (Or.inr (Or.inr rfl))), ho2, hrw2, hst2.1, fun u k hu hk _ => hst2.2 u k hu hk, chW_G hC (by omega)⟩
        exact kX_lv _ rfl rfl rfl this
    · have q2 : W = 0 := Classical.byContradiction (fun z => hl0.mpr z (qneF q2))
      rw [q2] at hXe hY2
      have hXe : X = (x.1, x.2.1 + 0, x.2.2.1, x.2.2.2) := hXe
      rw [← hXe] at hY2
      have hXa : X.2.2.2 = 0 := by rw [hXe]; exact han
      repeat refine kX_one rfl ?_
      refine kX_ret (i := .ireturn) (len := 1) rfl (Or.inr rfl) rfl ⟨hY2, Or.inl ⟨hXa, rfl⟩, fun _ => ⟨hst2, hrw2⟩⟩
  · have q : ¬ lg_cmp ((nI x.2.1).toInt64 + lI (min W 20001)) 20000 ≤ 0 := of_decide_eq_false q
    rw [hsum, lc_le (by omega)] at q
    have hWg : 20000 < x.2.1 + W := by
      have := Nat.min_le_left W 20001
      omega
    rw [cit_T hWg] at hXe
    have hY2 : mY σ (va_up τ 232 (upd (τ 232) 70 (nI 20001))) n R S (x.1, 20001, x.2.2.1, -7) := mY_ways hT hB hY (by omega)
    rw [← hXe] at hY2
    repeat refine kX_one rfl ?_
    refine kX_ret (i := .ireturn) (len := 1) rfl (Or.inr rfl) rfl ⟨hY2, Or.inr (Or.inl ⟨by rw [hXe], rfl⟩), fun z => ?_⟩
    rw [hXe] at z
    have z : (-7 : Int32) = 0 := z
    exact absurd z (by decide)
set_option maxRecDepth 100000 in
set_option maxHeartbeats 4000000 in
theorem mY_receives (L : Nat) (xs : Nat → Int32) (d : Nat) (σ τ : kS) (n b R S C i s r dn t : Nat) (kl : List Nat) (x : sX) (a : Nat → Int32) (X : sX) (hT : mTb σ n b) (hB : mBs σ n R S C kl) (ha : aOk σ n R S a) (hs : s < S) (r1 : r < R) (r2 : σ 255 s = nI r) (r3 : a (7 * s) = nI dn) (hdn : dn < fN (σ 247 r)) (hse : σ 249 (6 * r + dn) = 0) (ht : t < n) (het : σ 248 (6 * r + dn) = nI t) (hi6 : i < 600) (hi : i < x.1.length) (hai : (xq x.1 i).1 = a) (han : x.2.2.2 = 0) (hY : mY σ τ n R S x) (hst : aSt τ S a) (hrw : rwY τ n (trSt (stI σ a) kl S)) (hXe : X = cit (20000 < x.2.1 + wyN ((owO σ n r dn).map List.length)) (x.1, 20001, x.2.2.1, -7) (sWy σ kl S C i s a t (owP σ r dn) (owO σ n r dn) (wyN ((owO σ n r dn).map List.length)) 0 (x.1, x.2.1 + wyN ((owO σ n r dn).map List.length), x.2.2.1, x.2.2.2))) :
    kXM kT L xs (d + 9) 217 [.ref 232, .int (nI i), .int (nI s), .int (nI t)] τ (fun r σ' => rcY σ σ' n R S C kl a X r) := by
  have hR := hB.1
  have hn := hT.1
  have hS4 := hB.2.1.1
  have hR4 := hR.1
  have hF := hY.1
  obtain ⟨bt, l, c1, c2, c3, c4, c5⟩ := id hrw
  obtain ⟨t', t1, t2, t3, -⟩ := hR.2.2.2.2.2 r dn r1 hdn
  obtain rfl : t = t' := nI_inj (het.symm.trans t2)
  have hft : fN (σ 248 (6 * r + dn)) = t := by rw [het]; exact fN_nI (by omega)
  have hvar := fun u hu => mRo_var (u := u) hT hR r1 ht t3 hu
  have etv : tvs (τ 233) (τ 234) (τ 235) t = tvs (σ 233) (σ 234) (σ 235) t := (mFr_all hT (pat_fr hF) ht).2.2
  have hofn : τ 241 = σ 241 := hF.1 _ (by decide) (by decide)
  unfold kXM
  iterate 2 (refine kX_one rfl ?_)
  refine kX_cal (mr_findVariables L xs (d + 7) τ n bt t c2 ht) rfl (Or.inr rfl) rfl rfl rfl (fun r1' σ1 q1 => ?_)
  obtain ⟨rfl, W, ST, rfl, hl, h24⟩ := q1
  rw [etv] at hl h24 ⊢
  have hmem : ∀ u, u ∈ ddl [] (tvs (σ 233) (σ 234) (σ 235) t) ↔ u ∈ tvs (σ 233) (σ 234) (σ 235) t := fun u => by
    rw [ddl_mem]
    simp
  have hnd := ddl_nd (tvs (σ 233) (σ 234) (σ 235) t) [] List.Pairwise.nil
  have hbl : bls σ r dn = fl (fun u => nbv σ r dn (fN (σ 241 u))) (ddl [] (tvs (σ 233) (σ 234) (σ 235) t)) := by
    unfold bls
    rw [hft]
  generalize ddl [] (tvs (σ 233) (σ 234) (σ 235) t) = vs at *
  have hinj : ∀ u ∈ vs, ∀ v ∈ vs, u ≠ v → σ 241 u ≠ σ 241 v := fun u hu v hv' huv e => by
    obtain ⟨k, so, u1, k6, kv, vv, kk, -⟩ := hvar u ((hmem u).mp hu)
    obtain ⟨k', so', u1', k6', kv', vv', kk', -⟩ := hvar v ((hmem v).mp hv')
    obtain rfl : k = k' := nI_inj (by rw [← kk, ← kk', e])
    exact huv (nI_inj (vv.symm.trans vv'))
  have hnum : ∀ u ∈ vs, u < 200 ∧ ∃ k, k < 6 ∧ σ 241 u = nI k := fun u hu => by
    obtain ⟨k, so, u1, k6, kv, vv, kk, -⟩ := hvar u ((hmem u).mp hu)
    exact ⟨by omega, k, k6, kk⟩
  have hopF : opF (fvS τ W ST (nI vs.length)) s vs vs.length = bls σ r dn := by
    rw [hbl]
    unfold opF
    rw [List.take_length]
    refine fl_congr (fun u hu => ?_)
    obtain ⟨k, so, u1, k6, kv, vv, kk, -⟩ := hvar u ((hmem u).mp hu)
    show τ 265 (6 * s + fN (τ 241 u)) < 0 ↔ _
    rw [bls_neg hT hR ha.2.1 hs r1 r2 r3 hdn hse ht het ((hmem u).mp hu), hofn, kk, fN_nI (by omega), hst.2 s k hs k6]
  have hopM : opM (fvS τ W ST (nI vs.length)) n (bls σ r dn) = min (wyN ((owO σ n r dn).map List.length)) 20001 := by
    unfold opM owO
    rw [List.map_map]
    congr 2
    refine List.map_congr_left (fun u hu => ?_)
    obtain ⟨u1, -, so, s1, s2⟩ := (bls_ok hT hR r1 hdn het ht).2.2.1 u hu
    show cnt (ofs τ u) n = (opL σ (fN (σ 240 u)) n).length
    rw [cnt_opL n (ofs_gS hT hF s2 s1), s2, fN_nI (by omega)]
  iterate 6 (refine kX_one rfl ?_)
  have := mf_rc_open L xs (d + 6) (fvS τ W ST (nI vs.length)) n bt s vs c2 (by omega) rfl hl h24 hnd (by show ∀ u ∈ vs, u < 200 ∧ ∃ k, k < 6 ∧ τ 241 u = nI k; rw [hofn]; exact hnum) (by show ∀ u ∈ vs, ∀ v ∈ vs, u ≠ v → τ 241 u ≠ τ 241 v; rw [hofn]; exact hinj) (nI i) (nI t) (fun r σ' => rcY σ σ' n R S C kl a X r) (fun O hO => ?_) (0, τ 292) ⟨Nat.zero_le _, fun p hp => absurd hp (by simp [opF, fl])⟩
  · refine kX_to _ _ rfl rfl rfl ?_ this
    funext c; unfold fvS va_up; repeat' split
    all_goals first | rfl | omega | (subst_vars; rfl) | (funext j; unfold upd; repeat' split; all_goals first | rfl | omega | (subst_vars; rfl))
  · rw [hopF] at hO ⊢
    rw [hopM]
    have hY1 : mY σ (fvS τ W ST (nI vs.length)) n R S x := mY_fr hT hB hY (mFr_fv τ n W ST (nI vs.length)) ⟨bt, c2⟩
    exact mY_rc_go L xs d σ (va_up (fvS τ W ST (nI vs.length)) 292 O) n b R S C i s r dn t _ kl x a X hT hB ha hs r1 r2 r3 hdn hse ht het rfl hi6 hi hai han (mY_up hT hB hY1 (Or.inr (Or.inr (Or.inl rfl)))) hst ⟨bt, l, c1, c2, c3, c4, c5⟩ hO hXe
end
