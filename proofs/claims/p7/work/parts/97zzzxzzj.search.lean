/-! alike: the class's search -/
theorem opL_hi {σ τ : kS} (e : ∀ c, 232 ≤ c → τ c = σ c) (so : Nat) : ∀ n, opL τ so n = opL σ so n
  | 0 => rfl
  | n + 1 => by
    rw [opL_1, opL_1, opL_hi e so n]
    have : gS τ so n = gS σ so n := by
      unfold gS
      rw [e 233 (by decide), e 234 (by decide), e 235 (by decide)]
    rw [this]
/-- the first STATE -/
theorem a0_ok {σ : kS} {n b R S C m : Nat} {kl : List Nat} (h : aJ σ n b R S C kl m) : aOk σ n R S (stF σ 17 0 S) ∧ ∀ s, s < S → stF σ 17 0 S (7 * s) = 0 := by
  have hat : ∀ j, j < 7 * S → stF σ 17 0 S j = σ 17 j := fun j hj => by
    unfold stF
    rw [if_pos hj, Nat.zero_add]
  have hD : ∀ s, s < S → aD (stF σ 17 0 S) s = 0 := fun s hs => by
    show stF σ 17 0 S (7 * s) = 0
    rw [hat _ (by omega)]
    exact (h.2.2.2.2.1 s hs).2.1
  have hV : ∀ s k, s < S → k < 6 → aV (stF σ 17 0 S) (6 * s + k) = if k < fN (σ 244 (fN (σ 255 s))) then σ 256 (6 * s + k) else -6 := fun s k hs hk => by
    rw [aV_at _ hk, hat _ (by omega)]
    exact (h.2.2.2.2.1 s hs).2.2.1 k hk
  have hc := se_cfg (D := aD (stF σ 17 0 S)) (V := aV (stF σ 17 0 S)) h.1.1 h.1.2.1 h.1.2.2.1 hD hV
  refine ⟨⟨fun i hi => if_neg (by omega), hc, fun s k hs hk => ?_⟩, hD⟩
  rw [hat _ (by omega)]
  have := h.2.1.2.2.1.2.2.2 s k hs hk
  rw [show 0 + 7 * s + 1 + k = 7 * s + 1 + k by omega] at this
  rcases this with q | ⟨z, z1, z2, -⟩
  · exact Or.inl q
  · exact Or.inr ⟨z, z1, z2⟩
theorem sWi_0 {τ : kS} {wd : Nat} (h1 : τ 196 5 = 0) (h2 : ∀ s, s < 1024 → τ 201 s = -1) : sWi τ wd 0 := ⟨by decide, h1, fun s hs => Or.inl ⟨h2 s hs, fun t _ z => absurd z.1 (Nat.not_lt_zero t)⟩, fun t ht => absurd ht (Nat.not_lt_zero t)⟩
set_option maxRecDepth 100000 in
set_option maxHeartbeats 4000000 in
theorem mX_start (L : Nat) (xs : Nat → Int32) (d : Nat) (σ : kS) (n b R S C m0 : Nat) (kl : List Nat) (h : aJ σ n b R S C kl m0) (hm : m0 < 2147480000) (X : sX) (hXe : X = sRe σ kl S C ([], 0, 0, 0) (stF σ 17 0 S) (-1) (-1)) : kXM kT L xs (d + 56) 80 [.ref 195] σ (fun q ω => q = none ∧ cX σ ω n R S C X (m0 + 1)) := by
  have hJ := h.2.1
  have hT := hJ.1
  have hS4 := hJ.2.2.1.1
  have hn := h.1.1.1
  obtain ⟨ok0, ok1⟩ := a0_ok h
  obtain ⟨m1, m2, m3, e1, e2, e3, k1, k2, k3⟩ := h.2.2.2.2.2.2.2.2.2
  unfold kXM
  iterate 1 (refine kX_one rfl ?_)
  refine kX_cal (mf_forget L xs (d + 52) σ) rfl (Or.inr rfl) rfl rfl rfl (fun r1 τ q1 => ?_)
  obtain ⟨rfl, f1, f2, f4, f5, f6, f7, f3⟩ := q1
  have hT1 : cT τ n := cT_eq (by rw [f3 1 (by decide) (by decide) (by decide)]) (f3 _ (by decide) (by decide) (by decide)) (fun u _ => ⟨by rw [f3 2 (by decide) (by decide) (by decide)], by rw [f3 3 (by decide) (by decide) (by decide)], by rw [f3 4 (by decide) (by decide) (by decide)], by rw [f3 8 (by decide) (by decide) (by decide)], by rw [f3 12 (by decide) (by decide) (by decide)], by rw [f3 6 (by decide) (by decide) (by decide)]⟩) hT
  have hi1 : ∀ c, 232 ≤ c → τ c = σ c := fun c hc => f3 c (by omega) (by omega) (by omega)
  have hM1 : mTb τ n b := (mI_hi hi1 h.1).1
  have hA1 : ∀ t, t < n → aT1 τ t := aT1_sF hn (sF_of (fun c hc => f3 c (by omega) (by omega) (by omega))) (fun j _ => by rw [f3 5 (by decide) (by decide) (by decide)]) h.2.2.1.1
  iterate 2 (refine kX_one rfl ?_)
  refine kX_cal (mf_listOptions L xs (d + 53) τ n b hT1 hM1 hA1) rfl (Or.inr rfl) rfl rfl rfl (fun r1 ω q1 => ?_)
  obtain ⟨rfl, o1, o2⟩ := q1
  have o2 : cOL ω (fun so => opL σ so n) := fun so hso => by
    have := o2 so hso
    dsimp only at this ⊢
    rw [opL_hi hi1] at this
    exact this
  have e0 : ∀ c, c ≠ 195 → c ≠ 196 → c ≠ 201 → c < 224 ∨ 229 ≤ c → ω c = σ c := fun c c1 c2 c3 c4 => (o1 c c4).trans (f3 c c1 c2 c3)
  have w195 : ω 195 = τ 195 := o1 195 (by decide)
  have hsc : ω 13 6 = nI S := by
    rw [e0 13 (by decide) (by decide) (by decide) (by decide)]
    exact hJ.2.2.1.2.1
  iterate 4 (refine kX_one rfl ?_)
  refine kX_top (hsc) ?_
  iterate 2 (refine kX_one rfl ?_)
  refine kX_top (y := nI (7 * S)) (ix7s S) ?_
  iterate 1 (refine kX_one rfl ?_)
  generalize hρ : va_up ω 195 (upd (ω 195) 6 (nI (7 * S))) = ρ
  have g0 : ∀ c, c ≠ 195 → ρ c = ω c := fun c hc => by rw [← hρ]; exact up_ne hc
  have g1 : ∀ j, j ≠ 6 → ρ 195 j = τ 195 j := fun j hj => by rw [← hρ, up_eq, pk_un hj, w195]
  have g2 : ρ 195 6 = nI (7 * S) := by rw [← hρ, up_eq, pk_us]
  have hCl : cCl ρ C := cCl_eq (by rw [g0 13 (by decide), e0 13 (by decide) (by decide) (by decide) (by decide)]) (fun c c1 c2 => (g0 c (by omega)).trans (e0 c (by omega) (by omega) (by omega) (by omega))) hJ.2.2.2.1
  have hC6 := hCl.1
  iterate 3 (refine kX_one rfl ?_)
  refine kX_cal (mf_hasSecrets L xs (d + 54) ρ C hCl) rfl (Or.inr rfl) rfl rfl rfl (fun r1 σ1 q1 => ?_)
  obtain ⟨rfl, rfl⟩ := q1
  have hsec : (∃ c, c < C ∧ ρ (163 + 3 * c) 0 ≠ 0) ↔ (∃ c, c < C ∧ σ (163 + 3 * c) 0 ≠ 0) := exists_congr (fun c => and_congr_right (fun hc => by rw [g0 (163 + 3 * c) (by omega), e0 (163 + 3 * c) (by omega) (by omega) (by omega) (by omega)]))
  rw [isB_iff hsec]
  have k36 : ∀ v, v = isB (∃ c, c < C ∧ σ (163 + 3 * c) 0 ≠ 0) → kX kT L xs (d + 56) 80 36 [(0, .ref 195)] [] (va_up ρ 195 (upd (ρ 195) 7 v)) (fun q ω => q = none ∧ cX σ ω n R S C X (m0 + 1)) := by
    intro v hv
    iterate 8 (refine kX_one rfl ?_)
    refine kX_acpyN (n0 := 28) (n1 := 28) (f0 := fun _ => 0) (g0 := fun _ => 0) rfl rfl rfl rfl rfl rfl 0 0 28 rfl rfl rfl (by decide) (by decide) (by decide) (by decide) (Nat.zero_le 8) ?_
    refine kX_st (va_up (va_up ρ 195 (upd (ρ 195) 7 v)) 202 (va_cpy (ρ 17) (ρ 202) 0 0 28)) rfl ?_
    have x0 : ∀ c, c ≠ 195 → c ≠ 202 → va_up (va_up ρ 195 (upd (ρ 195) 7 v)) 202 (va_cpy (ρ 17) (ρ 202) 0 0 28) c = ω c := fun c c1 c2 => by
      rw [up_ne c2, up_ne c1]
      exact g0 c c1
    have x1 : ∀ j, j ≠ 7 → va_up (va_up ρ 195 (upd (ρ 195) 7 v)) 202 (va_cpy (ρ 17) (ρ 202) 0 0 28) 195 j = ρ 195 j := fun j hj => by
      rw [up_ne (by decide), up_eq, pk_un hj]
    have x2 : va_up (va_up ρ 195 (upd (ρ 195) 7 v)) 202 (va_cpy (ρ 17) (ρ 202) 0 0 28) 195 7 = v := by
      rw [up_ne (by decide), up_eq, pk_us]
    have x3 : stF (va_up (va_up ρ 195 (upd (ρ 195) 7 v)) 202 (va_cpy (ρ 17) (ρ 202) 0 0 28)) 202 0 S = stF σ 17 0 S := by
      funext j
      unfold stF
      by_cases hj : j < 7 * S
      · rw [if_pos hj, if_pos hj, up_eq, va_cpy, if_pos (by omega), g0 17 (by decide), e0 17 (by decide) (by decide) (by decide) (by decide)]
        congr 1
        omega
      · rw [if_neg hj, if_neg hj]
    generalize va_up (va_up ρ 195 (upd (ρ 195) 7 v)) 202 (va_cpy (ρ 17) (ρ 202) 0 0 28) = π at *
    have z0 : ∀ c, c ≠ 195 → c ≠ 196 → c ≠ 201 → c ≠ 202 → c < 224 ∨ 229 ≤ c → π c = σ c := fun c c1 c2 c3 c4 c5 => (x0 c c1 c4).trans (e0 c c1 c2 c3 c5)
    have z' : ∀ c, c < 195 ∨ (202 < c ∧ c < 224) ∨ 229 ≤ c → π c = σ c := fun c hc => z0 c (by omega) (by omega) (by omega) (by omega) (by omega)
    have hgt : ∀ g, 200 ≤ g → π 2 g = σ 2 g ∧ π 3 g = σ 3 g ∧ π 4 g = σ 4 g ∧ π 6 g = σ 6 g := fun g _ => by
      rw [z' 2 (by decide), z' 3 (by decide), z' 4 (by decide), z' 6 (by decide)]
      exact ⟨rfl, rfl, rfl, rfl⟩
    have hG : cGx σ π := ⟨sF_of (fun c hc => z' c (by omega)), fun j _ => by rw [z' 5 (by decide)], cKw_eq (by decide) (z' _ (by decide)) (z' _ (by decide)) (z' _ (by decide)) hgt hJ.2.2.2.2.2.2.1, cKw_eq (by decide) (z' _ (by decide)) (z' _ (by decide)) (z' _ (by decide)) hgt hJ.2.2.2.2.2.2.2.1, cQ_eq (z' _ (by decide)) (z' _ (by decide)) hJ.2.2.2.2.2.2.2.2.2.2⟩
    have hB : cB π n R S C := cB_eq (fun c c1 c2 => sF_13 hG.1 c c1 (by omega)) (cB_of hJ)
    obtain ⟨⟨v1, v2, v3, v4, v5, v6⟩, ⟨y1, y2, y3, y4, y5⟩, vh⟩ := vB_of h hG ok0
    have hsv : staV (stI π (stF σ 17 0 S)) 202 0 S := by
      have := stF_staV π 202 0 S (by decide)
      rw [x3] at this
      exact this
    have hK3 : kMs π 213 m3 := kMs_eq (fun c c1 c2 => z' c (by omega)) k3
    have hK2 : kMs π 204 m2 := kMs_eq (fun c c1 c2 => z' c (by omega)) k2
    iterate 7 (refine kX_one rfl ?_)
    refine kX_cal (mf_fill L xs (d + 1) π (stI π (stF σ 17 0 S)) 213 1352 n b R S 202 28 0 m3 kl (fun _ => 0) (Or.inr (Or.inr ⟨rfl, rfl⟩)) (stI_vw π _) v1 v2 v4 v6 y1 y2 y3 y5 hsv (cT_sF hG.1 hT) hB.1 hS4 hB.2.1.2.1 hG.2.2.2.1 hK3 (by omega) rfl (by decide) (by decide) (by decide)) rfl (Or.inr rfl) rfl rfl rfl (fun r1 κ q1 => ?_)
    obtain ⟨rfl, u, l, hg, hw, htr⟩ := q1
    have hF := hg.1
    have hE := hg.2.1
    rw [trSt_hi (stI_hi (sF_hi hG.1) _)] at htr
    have hc : ∀ c, 7 ≤ c → c < 213 ∨ 222 ≤ c → κ c = π c := fun c a b => hF.1.1 c (by omega) (by omega) (by omega) (by omega) (by omega) (by omega)
    have hs' : sF π κ := ⟨fun c a1 a2 a3 a4 a5 a6 => hF.1.1 c (by omega) a2 a3 a4 a5 a6, fun j hj => hF.1.2 j (by omega)⟩
    have hTk : cT κ n := cT_nF (Or.inr (Or.inr ⟨rfl, rfl⟩)) hF.1 (cT_sF hG.1 hT)
    have hX0 : cX σ κ n R S C ([], 0, 0, 0) (m0 + 1) := by
      refine ⟨⟨sF_trans hG.1 hs', fun j hj => (hF.2 j (by omega)).trans (hG.2.1 j hj), ?_, nW_w (iE_nW hE hTk hg.2.2.2), cQ_eq (hc _ (by decide) (by decide)) (hc _ (by decide) (by decide)) hG.2.2.2.2⟩, sWi_0 ?_ (fun s hs => ?_), fun i hi => absurd hi (Nat.not_lt_zero i), ⟨?_, ?_, ?_, by decide, ?_, ?_⟩, fun so hso => ?_, ⟨m2, by omega, kMs_eq (fun c c1 c2 => hc c (by omega) (by omega)) hK2⟩, ⟨u, m3 + 1, l, by omega, hE⟩, xOk_nil σ n R S, fun _ => ?_, fun z => absurd rfl z⟩
      · exact cKw_eq2 (hc _ (by decide) (by decide)) (hc _ (by decide) (by decide)) (hc _ (by decide) (by decide)) (fun g g1 g2 => hF.1.2 g (by omega)) hG.2.2.1
      · rw [hc 196 (by decide) (by decide), x0 196 (by decide) (by decide), o1 196 (by decide)]
        exact f1
      · rw [hc 201 (by decide) (by decide), x0 201 (by decide) (by decide), o1 201 (by decide)]
        exact f7 s hs
      · rw [hc 195 (by decide) (by decide), x1 _ (by decide)]
        exact g2
      · rw [hc 195 (by decide) (by decide), x2]
        exact hv
      · rw [hc 195 (by decide) (by decide), x1 _ (by decide), g1 _ (by decide)]
        exact f4
      · rw [hc 195 (by decide) (by decide), x1 _ (by decide), g1 _ (by decide)]
        exact f5
      · rw [hc 195 (by decide) (by decide), x1 _ (by decide), g1 _ (by decide)]
        exact f6
      · rw [hc 228 (by decide) (by decide), hc (224 + so) (by omega) (by omega), x0 228 (by decide) (by decide), x0 (224 + so) (by omega) (by omega)]
        exact o2 so hso
      · rw [hc 195 (by decide) (by decide), x1 _ (by decide), g1 _ (by decide)]
        exact f2
    have hst : stF κ 202 0 S = stF σ 17 0 S := by
      rw [← x3]
      unfold stF
      rw [hc 202 (by decide) (by decide)]
    iterate 5 (refine kX_one rfl ?_)
    refine kX_cal (mX_reach L xs d σ κ n b R S C m0 (m0 + 1) 213 1352 u (m3 + 1) kl ([], 0, 0, 0) (stF σ 17 0 S) l _ _ h hX0 (Or.inr ⟨rfl, rfl⟩) hE (by omega) hst ok0 (fun ⟨q, z, _⟩ => absurd z List.not_mem_nil) rfl (Or.inl ⟨rfl, ok1⟩) (fun _ => htr)) rfl (Or.inr rfl) rfl rfl rfl (fun r1 μ q1 => ?_)
    obtain ⟨rfl, hXk, -, -⟩ := q1
    have hXk : cX σ μ n R S C X (m0 + 1) := by
      rw [hXe]
      exact hXk
    refine kX_ret (i := .return_) (len := 1) rfl (Or.inr rfl) rfl (⟨rfl, hXk⟩)
  by_cases hse : ∃ c, c < C ∧ σ (163 + 3 * c) 0 ≠ 0
  · rw [isB_T hse]
    iterate 1 (refine kX_one rfl ?_)
    exact kX_lv _ rfl rfl rfl (k36 _ (isB_T hse).symm)
  · rw [isB_F hse]
    iterate 1 (refine kX_one rfl ?_)
    exact kX_lv _ rfl rfl rfl (k36 _ (isB_F hse).symm)
set_option maxRecDepth 100000 in
set_option maxHeartbeats 4000000 in
theorem mX_goesOn (L : Nat) (xs : Nat → Int32) (d : Nat) (τ : kS) (N i : Nat) (an : Int32) (hN : N ≤ 600) (hi : i ≤ 600) (hc : τ 196 5 = nI N) (ha : τ 195 12 = an) : kXM kT L xs (d + 1) 81 [.ref 195, .int (nI i)] τ (fun q ω => q = some (.int (isB (an = 0 ∧ i < N))) ∧ τ = ω) := by
  unfold kXM
  repeat refine kX_one rfl ?_
  refine kX_if (fun q => ?_) (fun q => ?_)
  · have q : an ≠ 0 := fun e => qne q (ha.trans e)
    have e : isB (an = 0 ∧ i < N) = 0 := isB_F (fun z => q z.1)
    repeat refine kX_one rfl ?_
    refine kX_ret (i := .ireturn) (len := 1) rfl (Or.inr rfl) rfl (⟨by rw [e]; rfl, rfl⟩)
  · have q : an = 0 := ha.symm.trans (qneF q)
    iterate 4 (refine kX_one rfl ?_)
    refine kX_top (hc) ?_
    repeat refine kX_one rfl ?_
    refine kX_if (fun q2 => ?_) (fun q2 => ?_)
    · have q2 := qge q2 i N
      have e : isB (an = 0 ∧ i < N) = 0 := isB_F (fun z => by omega)
      repeat refine kX_one rfl ?_
      refine kX_ret (i := .ireturn) (len := 1) rfl (Or.inr rfl) rfl (⟨by rw [e]; rfl, rfl⟩)
    · have q2 := qgeF q2 i N
      have e : isB (an = 0 ∧ i < N) = 1 := isB_T ⟨q, q2⟩
      repeat refine kX_one rfl ?_
      refine kX_ret (i := .ireturn) (len := 1) rfl (Or.inr rfl) rfl (⟨by rw [e]; rfl, rfl⟩)
set_option maxRecDepth 100000 in
set_option maxHeartbeats 4000000 in
theorem mX_search (L : Nat) (xs : Nat → Int32) (d : Nat) (σ : kS) (n b R S C m0 : Nat) (kl : List Nat) (h : aJ σ n b R S C kl m0) (hm : m0 < 2147470000) (X : sX) (hXe : X = sSr σ kl n S C (stF σ 17 0 S)) : kXM kT L xs (d + 58) 132 [.ref 0] σ (fun r ω => r = some (.int X.2.2.2) ∧ cX σ ω n R S C X (m0 + 2401)) := by
  have loop : ∀ q : Nat × kS × sX, (q.1 ≤ 600 ∧ cX σ q.2.1 n R S C q.2.2 (m0 + 1 + 4 * q.1) ∧ sAll σ kl n S C (600 - q.1) q.1 q.2.2 = X) → kX kT L xs (d + 58) 132 9 [(1, .int (nI q.1)), (0, .ref 0)] [] q.2.1 (fun r ω => r = some (.int X.2.2.2) ∧ cX σ ω n R S C X (m0 + 2401)) := by
    refine kX_while (fun q : Nat × kS × sX => [(1, .int (nI q.1)), (0, .ref 0)]) (fun q => q.2.1) _ (fun q => 600 - q.1) ?_
    rintro ⟨i, ω, x⟩ ⟨i1, i2, i3⟩ ih
    dsimp only at i1 i2 i3 ih ⊢
    have hans := i2.2.2.2.1.2.2.2.2.2
    have fin : x = X → ∀ lv, nk lv = true → ([(0, .ref 0)] : jL).map (fun q => jl lv q.1) = ([(0, Value.ref 0)] : jL).map (fun q => some q.2) → kX kT L xs (d + 58) 132 41 lv [] ω (fun r ω => r = some (.int X.2.2.2) ∧ cX σ ω n R S C X (m0 + 2401)) := by
      intro e lv hk hlv
      refine kX_lv _ hk rfl hlv ?_
      subst e
      iterate 3 (refine kX_one rfl ?_)
      refine kX_top (y := x.2.2.2) hans ?_
      refine kX_ret (i := .ireturn) (len := 1) rfl (Or.inr rfl) rfl (⟨rfl, cX_up i2 (by omega)⟩)
    repeat refine kX_one rfl ?_
    refine kX_if (fun q => ?_) (fun q => ?_)
    · have q := qge q i 600
      rw [show 600 - i = 0 by omega] at i3
      exact fin i3 _ rfl rfl
    · have q := qgeF q i 600
      obtain ⟨m', hm'⟩ : ∃ m', 600 - i = m' + 1 := ⟨600 - i - 1, by omega⟩
      rw [hm', sAll] at i3
      iterate 3 (refine kX_one rfl ?_)
      refine kX_cal (mX_goesOn L xs (d + 56) ω x.1.length i x.2.2.2 i2.2.1.1 i1 i2.2.1.2.1 hans) rfl (Or.inr rfl) rfl rfl rfl (fun r1 σ1 q1 => ?_)
      obtain ⟨rfl, rfl⟩ := q1
      by_cases hg : x.2.2.2 = 0 ∧ i < x.1.length
      · rw [isB_T hg]
        rw [cit_T hg] at i3
        iterate 4 (refine kX_one rfl ?_)
        refine kX_cal (mX_goThrough L xs d σ ω n b R S C m0 (m0 + 1 + 4 * i) i kl x _ h i2 (by omega) hg.2 rfl _ rfl) rfl (Or.inr rfl) rfl rfl rfl (fun r1 ρ q1 => ?_)
        obtain ⟨rfl, hX2⟩ := q1
        iterate 2 (refine kX_one rfl ?_)
        have := ih (i + 1, ρ, _) ⟨q, cX_up hX2 (by simp only; omega), by simp only; rw [show 600 - (i + 1) = m' by omega]; exact i3⟩ (by simp only; omega)
        dsimp only at this
        rw [← nI_1] at this
        exact kX_lv _ rfl rfl rfl this
      · rw [isB_F hg]
        rw [cit_F hg] at i3
        iterate 1 (refine kX_one rfl ?_)
        exact fin i3 _ rfl rfl
  unfold kXM
  iterate 2 (refine kX_one rfl ?_)
  refine kX_cal (mX_start L xs (d + 1) σ n b R S C m0 kl h (by omega) _ rfl) rfl (Or.inr rfl) rfl rfl rfl (fun r1 τ q1 => ?_)
  obtain ⟨rfl, hI⟩ := q1
  iterate 2 (refine kX_one rfl ?_)
  exact kX_lv _ rfl rfl rfl (loop (0, τ, _) ⟨Nat.zero_le _, hI, hXe.symm⟩)
