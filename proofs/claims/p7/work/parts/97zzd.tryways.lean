/-! the class: tryWays -/
theorem cHo_eq {τ ω : kS} {a m : Nat} (e1 : ω (a + 2) = τ (a + 2)) (e2 : ω 228 = τ 228) (e3 : ω 229 = τ 229) (h : cHo τ a m) : cHo ω a m := by
  unfold cHo
  rw [e1, e2, e3]
  exact h
theorem sI_wy {σ τ ω : kS} {n S N s a m : Nat} (h : sI σ τ n S N) (hw : wyP τ ω n S s a m) (hs : s < 4) : sI σ ω n S N := sI_eq h (fun c _ b1 b2 b3 _ _ => hw.1 c b2 b3 b1) (by rw [hw.1 195 (by decide) (by decide) (by decide)]) ⟨by
  rw [hw.1 231 (by decide) (by decide) (by decide)]
  exact h.2.2.2.2.1.1, 7 * s + 1, by omega, hw.2.1⟩
theorem sI_wg {σ τ ω : kS} {n S N : Nat} (h : sI σ τ n S N) (hw : wgP τ ω) : sI σ ω n S N := by
  obtain ⟨h1, h2, h3, h4, h5, h6⟩ := h
  have e' : ∀ c, c < 204 ∨ (213 ≤ c ∧ c < 230) ∨ 231 < c → ω c = τ c := fun c hc => hw.1 c (by omega) (by omega) (by omega)
  have hg : ∀ z, z < n → ω 8 z = τ 8 z := fun z _ => by rw [e' _ (by decide)]
  have hgt : ∀ g, 200 ≤ g → ω 2 g = τ 2 g ∧ ω 3 g = τ 3 g ∧ ω 4 g = τ 4 g ∧ ω 6 g = τ 6 g := fun g _ => by
    rw [e' 2 (by decide), e' 3 (by decide), e' 4 (by decide), e' 6 (by decide)]
    exact ⟨rfl, rfl, rfl, rfl⟩
  exact ⟨sF_trans h1 (sF_of (fun c hc => e' c (by omega))), hw.2.1, cKw_eq (by decide) (e' _ (by decide)) (e' _ (by decide)) (e' _ (by decide)) hgt h3, cSn_eq hg (e' _ (by decide)) (e' _ (by decide)) (e' _ (by decide)) (e' _ (by decide)) (by rw [e' 195 (by decide)]) (e' _ (by decide)) h4, ⟨hw.2.2, by rw [e' 222 (by decide)]; exact h5.2⟩, cO_eq hg (fun c c1 c2 => e' c (by omega)) h6⟩
theorem lw_lt {j : Nat} {w : Int64} {x : Int32} (hj : j < 2147483648) (q : jcmp .ge (lg_cmp (nI j).toInt64 w) 0 = false) (hle : w ≤ x.toInt64) : j < w.toInt.toNat ∧ j + 1 < 2147483648 ∧ w ≠ 0 := by
  have q : ¬ (0 ≤ lg_cmp (nI j).toInt64 w) := of_decide_eq_false q
  rw [lg_cmp_ge, Int64.le_iff_toInt_le, Int32.toInt_toInt64, nI_toInt hj] at q
  rw [Int64.le_iff_toInt_le, Int32.toInt_toInt64] at hle
  have hx := Int32.toInt_lt x
  refine ⟨by omega, by omega, fun e => ?_⟩
  rw [e] at q
  have : (0 : Int64).toInt = 0 := rfl
  omega
theorem lw_le {w v : Int64} (q : jcmp .le (lg_cmp w v) 0 = true) : w ≤ v := by
  have q : lg_cmp w v ≤ 0 := of_decide_eq_true q
  unfold lg_cmp at q
  by_cases e : w > v
  · rw [if_pos e] at q
    exact absurd q (by decide)
  · rw [Int64.le_iff_toInt_le]
    have e : ¬ v < w := e
    rw [Int64.lt_iff_toInt_lt] at e
    omega
set_option maxRecDepth 100000 in
set_option maxHeartbeats 4000000 in
theorem mc_tryWays (L : Nat) (xs : Nat → Int32) (d : Nat) (σ τ : kS) (n R S C N i s r k : Nat) (h : cJ σ n R S C) (hI : sI σ τ n S N) (hV : cV τ n S (τ 202) 0) (hi : i < N) (hs : s < S) (hr4 : r < 4) (hk6 : k < 6) (hE : cE σ n (28 + 35 * r + 5 * k)) : kXM kT L xs (d + 55) 83 [.ref 195, .int (nI i), .int (nI s), .ref (28 + 35 * r + 5 * k)] τ (fun q ω => q = none ∧ ∃ N', N ≤ N' ∧ sI σ ω n S N') := by
  have hS4 := h.2.2.1.1
  have hs4 : s < 4 := by omega
  have hT := h.1
  have b4 := ev_b r k 4 hr4 hk6 (by decide)
  have hEo : ∀ {ω : kS} {N'}, sI σ ω n S N' → cE ω n (28 + 35 * r + 5 * k) := fun hw => cE_up (Nat.le_refl _) (fun j hj => sF_13 hw.1 _ (by omega) (by omega)) hE
  obtain ⟨t, m, qq, t1, m6, q24, t2, m2, -⟩ := hE
  have hmo : ∀ {ω : kS} {N'}, sI σ ω n S N' → ω (28 + 35 * r + 5 * k) 4 = nI m := fun hw => by rw [sF_13 hw.1 _ (by omega) (by omega)]; exact m2
  have hev2 : ∀ {ω ρ : kS} {N' N''}, sI σ ω n S N' → sI σ ρ n S N'' → ρ (28 + 35 * r + 5 * k + 2) = ω (28 + 35 * r + 5 * k + 2) := fun hw hp => by rw [sF_13 hw.1 _ (by omega) (by omega), sF_13 hp.1 _ (by omega) (by omega)]
  unfold kXM
  iterate 3 (refine kX_one rfl ?_)
  refine kX_cal (mc_waysOf L xs (d + 53) τ n r k hI.2.2.2.2.2 hr4 hk6 (hEo hI)) rfl (Or.inr rfl) rfl rfl rfl (fun r1 σ1 q1 => ?_)
  obtain ⟨⟨w, rfl, hw⟩, rfl⟩ := q1
  iterate 8 (refine kX_one rfl ?_)
  repeat refine kX_one rfl ?_
  refine kX_if (fun q => ?_) (fun q => ?_)
  · have hle := lw_le q
    generalize (Int16.ofInt 20000).toInt32 - τ 195 10 = x at *
    have loop : ∀ q : Nat × kS × Nat, (q.1 < 2147483648 ∧ sI σ q.2.1 n S q.2.2 ∧ N ≤ q.2.2 ∧ cV q.2.1 n S (q.2.1 202) 0 ∧ (w ≠ 0 → cW q.2.1 (28 + 35 * r + 5 * k) m) ∧ (q.1 ≠ 0 → q.2.1 222 3 = nI (7 * s + 1) ∧ cHo q.2.1 (28 + 35 * r + 5 * k) m)) → kX kT L xs (d + 55) 83 54 [(6, .int (nI q.1)), (4, .long w), (0, .ref 195), (1, .int (nI i)), (2, .int (nI s)), (3, .ref (28 + 35 * r + 5 * k))] [] q.2.1 (fun q ω => q = none ∧ ∃ N', N ≤ N' ∧ sI σ ω n S N') := by
      refine kX_while (fun q : Nat × kS × Nat => [(6, .int (nI q.1)), (4, .long w), (0, .ref 195), (1, .int (nI i)), (2, .int (nI s)), (3, .ref (28 + 35 * r + 5 * k))]) (fun q => q.2.1) _ (fun q => w.toInt.toNat - q.1) ?_
      rintro ⟨j, ω, N1⟩ ⟨j0, j1, j2, j3, j4, j5⟩ ih
      dsimp only at j0 j1 j2 j3 j4 j5 ih ⊢
      repeat refine kX_one rfl ?_
      refine kX_if (fun q => ?_) (fun q => ?_)
      · refine kX_ret (i := .return_) (len := 1) rfl (Or.inr rfl) rfl (⟨rfl, N1, j2, j1⟩)
      · obtain ⟨l1, l2, l3⟩ := lw_lt j0 q hle
        repeat refine kX_one rfl ?_
        refine kX_if (fun q2 => ?_) (fun q2 => ?_)
        · refine kX_ret (i := .return_) (len := 1) rfl (Or.inr rfl) rfl (⟨rfl, N1, j2, j1⟩)
        · have k138 : ∀ ρ N2, sI σ ρ n S N2 → N ≤ N2 → cV ρ n S (ρ 202) 0 → cW ρ (28 + 35 * r + 5 * k) m → ρ 222 3 = nI (7 * s + 1) → cHo ρ (28 + 35 * r + 5 * k) m → ∀ lv, nk lv = true → ([(6, .int (nI j)), (4, .long w), (0, .ref 195), (1, .int (nI i)), (2, .int (nI s)), (3, .ref (28 + 35 * r + 5 * k))] : jL).map (fun q => jl lv q.1) = ([(6, .int (nI j)), (4, .long w), (0, .ref 195), (1, .int (nI i)), (2, .int (nI s)), (3, Value.ref (28 + 35 * r + 5 * k))] : jL).map (fun q => some q.2) → kX kT L xs (d + 55) 83 138 lv [] ρ (fun q ω => q = none ∧ ∃ N', N ≤ N' ∧ sI σ ω n S N') := by
            intro ρ N2 r1 r2 r3 r4 r5 r6 lv hk hlv
            refine kX_lv _ hk rfl hlv ?_
            iterate 2 (refine kX_one rfl ?_)
            have := ih (j + 1, ρ, N2) ⟨l2, r1, r2, r3, fun _ => r4, fun _ => ⟨r5, r6⟩⟩ (by simp only; omega)
            dsimp only at this
            rw [← nI_1] at this
            exact kX_lv _ rfl rfl rfl this
          have hWo := j4 l3
          have k95 : ∀ ρ f, f ≤ 24 → wyP ω ρ n S s (28 + 35 * r + 5 * k) m → kX kT L xs (d + 55) 83 95 [(6, .int (nI j)), (4, .long w), (0, .ref 195), (1, .int (nI i)), (2, .int (nI s)), (3, .ref (28 + 35 * r + 5 * k))] [.int (nI f)] ρ (fun q ω => q = none ∧ ∃ N', N ≤ N' ∧ sI σ ω n S N') := by
            intro ρ f hf hy
            have hIr := sI_wy j1 hy hs4
            have hgr : ∀ z, z < n → ρ 8 z = ω 8 z := fun z _ => by rw [hy.1 _ (by decide) (by decide) (by decide)]
            have hVr : cV ρ n S (ρ 202) 0 := cV_eq hgr hy.2.2.2
            have hWr : cW ρ (28 + 35 * r + 5 * k) m := by
              unfold cW
              rw [hev2 j1 hIr, hy.1 228 (by decide) (by decide) (by decide)]
              exact hWo
            iterate 5 (refine kX_one rfl ?_)
            refine kX_cal (mc_weigh L xs (d + 2) ρ n r k s f (cT_sF hIr.1 hT) hr4 hk6 (hEo hIr) hf hs4 hy.2.1 ⟨fun _ _ _ _ => rfl, hIr.2.1, hIr.2.2.2.2.1.1⟩) rfl (Or.inr rfl) rfl rfl rfl (fun r1 π q1 => ?_)
            obtain ⟨hq, hg⟩ := q1
            have hIp := sI_wg hIr hg
            have hgp : ∀ z, z < n → π 8 z = ρ 8 z := fun z _ => by rw [hg.1 _ (by decide) (by decide) (by decide)]
            have hVp : cV π n S (π 202) 0 := by
              rw [hg.1 202 (by decide) (by decide) (by decide)]
              exact cV_eq hgp hVr
            have hWp : cW π (28 + 35 * r + 5 * k) m := by
              unfold cW
              rw [hev2 hIr hIp, hg.1 228 (by decide) (by decide) (by decide)]
              exact hWr
            have hvp : π 222 3 = nI (7 * s + 1) := by
              rw [hg.1 222 (by decide) (by decide) (by decide)]
              exact hy.2.1
            have hHp : cHo π (28 + 35 * r + 5 * k) m := cHo_eq (hev2 hIr hIp) (hg.1 _ (by decide) (by decide) (by decide)) (hg.1 _ (by decide) (by decide) (by decide)) hy.2.2.1
            rcases hq with rfl | rfl
            · iterate 1 (refine kX_one rfl ?_)
              exact k138 π N1 hIp j2 hVp hWp hvp hHp _ rfl rfl
            · iterate 7 (refine kX_one rfl ?_)
              refine kX_cal (mc_stHas L xs (d + 52) π _ N1 hIp.2.2.2.1.1 hIp.2.2.2.1.2.1) rfl (Or.inr rfl) rfl rfl rfl (fun r1 σ1 q1 => ?_)
              obtain ⟨hq, rfl⟩ := q1
              rcases hq with rfl | rfl
              · iterate 6 (refine kX_one rfl ?_)
                refine kX_cal (mc_reach L xs d σ π n R S C N1 204 776 (nI i) (nI s) h hIp hVp (fun _ => ⟨⟨i, by omega, rfl⟩, s, hs, rfl⟩) (Or.inl ⟨rfl, rfl⟩)) rfl (Or.inr rfl) rfl rfl rfl (fun r1 κ q1 => ?_)
                obtain ⟨rfl, hre, N2, n2, hIk⟩ := q1
                refine k138 κ N2 hIk (by omega) ?_ ?_ ?_ ?_ _ rfl rfl
                · rw [hre.1]
                  exact cV_eq (fun z _ => by rw [sF_g hIk.1, sF_g hIp.1]) hVp
                · unfold cW
                  rw [hev2 hIp hIk, hre.2 228 (by decide)]
                  exact hWp
                · rw [hre.2 222 (by decide)]
                  exact hvp
                · exact cHo_eq (hev2 hIp hIk) (hre.2 _ (by decide)) (hre.2 _ (by decide)) hHp
              · iterate 1 (refine kX_one rfl ?_)
                exact k138 π N1 hIp j2 hVp hWp hvp hHp _ rfl rfl
          repeat refine kX_one rfl ?_
          refine kX_if (fun q3 => ?_) (fun q3 => ?_)
          · have q3 : j ≠ 0 := fun e => qne q3 (by rw [e]; rfl)
            obtain ⟨v1, v2⟩ := j5 q3
            iterate 3 (refine kX_one rfl ?_)
            refine kX_cal (mc_next L xs (d + 52) ω n S r k s m j1.2.2.2.2.2 hr4 hk6 (hEo j1) (hmo j1) m6 hs4 ⟨fun _ _ _ _ => rfl, v1, v2, j3⟩) rfl (Or.inr rfl) rfl rfl rfl (fun r1 ρ q1 => ?_)
            obtain ⟨⟨f, f1, rfl⟩, hy⟩ := q1
            exact kX_lv _ rfl rfl rfl (k95 ρ f f1 hy)
          · iterate 4 (refine kX_one rfl ?_)
            refine kX_cal (mc_first L xs (d + 52) ω n S r k s m j1.2.2.2.2.2 hr4 hk6 (hEo j1) (hmo j1) m6 hWo hs4 j3) rfl (Or.inr rfl) rfl rfl rfl (fun r1 ρ q1 => ?_)
            obtain ⟨⟨f, f1, rfl⟩, hy⟩ := q1
            iterate 1 (refine kX_one rfl ?_)
            exact kX_lv _ rfl rfl rfl (k95 ρ f f1 hy)
    iterate 9 (refine kX_one rfl ?_)
    have x2 : sI σ (va_up τ 195 (upd (τ 195) 10 (τ 195 10 + w.toInt32))) n S N := sI_eq hI (fun c a _ _ _ _ _ => up_ne a) rfl hI.2.2.2.2.1
    have y2 : w ≠ 0 → cW (va_up τ 195 (upd (τ 195) 10 (τ 195 10 + w.toInt32))) (28 + 35 * r + 5 * k) m := fun hw0 => by
      have := (hw.resolve_left hw0) m (hmo hI) m6
      unfold cW at this ⊢
      rw [up_ne (by omega), up_ne (by decide)]
      exact this
    exact kX_lv _ rfl rfl rfl (loop (0, va_up τ 195 (upd (τ 195) 10 (τ 195 10 + w.toInt32)), N) ⟨by show 0 < 2147483648; decide, x2, Nat.le_refl _, hV, y2, fun e => absurd rfl e⟩)
  · iterate 6 (refine kX_one rfl ?_)
    refine kX_ret (i := .return_) (len := 1) rfl (Or.inr rfl) rfl ⟨rfl, N, Nat.le_refl _, sI_eq hI (fun c a _ _ _ _ _ => (up_ne a).trans (up_ne a)) rfl hI.2.2.2.2.1⟩
