/-! the class: the run's intruder -/
theorem cKw_eq2 {σ τ : kS} {K st : Nat} (e0 : τ K = σ K) (e1 : τ (K + 1) = σ (K + 1)) (e2 : τ (K + 2) = σ (K + 2)) (e : ∀ g, st ≤ g → g < st + 576 → τ 2 g = σ 2 g ∧ τ 3 g = σ 3 g ∧ τ 4 g = σ 4 g ∧ τ 6 g = σ 6 g) (h : cKw σ K st) : cKw τ K st := by
  obtain ⟨h1, u, ln, h2, h3, h4, h5, h6, h7, h8⟩ := h
  refine ⟨by rw [e0]; exact h1, u, ln, h2, h3, by rw [e0]; exact h4, by rw [e0]; exact h5, by rw [e2]; exact h6, fun s hs => ?_, fun g g1 g2 => ?_⟩
  · rw [e1]
    rcases h7 s hs with q | ⟨g, q1, q2, q3, q4⟩
    · exact Or.inl q
    · refine Or.inr ⟨g, q1, q2, q3, ?_⟩
      rw [(e g q1 (by omega)).1, (e g q1 (by omega)).2.1, (e g q1 (by omega)).2.2.1]
      exact q4
  · rw [(e g g1 (by omega)).2.2.2, (e g g1 (by omega)).1]
    exact h8 g g1 g2
/-- the run's intruder has changed, and what he is gathered for -/
theorem cJ_in {σ τ : kS} {n R S C u : Nat} (h : cJ σ n R S C) (hF : nF (va_up (va_up σ 184 (τ 184)) 181 (τ 181)) τ 186 200) (hW : nW τ 186 200 n u) (h181 : ∀ j, j ≠ 9 → τ 181 j = σ 181 j) (hg : τ 181 9 = -1 ∨ ∃ g, g ≤ n ∧ τ 181 9 = nI g) : cJ τ n R S C := by
  obtain ⟨h1, h2, h3, h4, h5, h6, h7, h8, h9, h10, h11⟩ := h
  have e : ∀ c, 7 ≤ c → c ≠ 181 → c ≠ 184 → c < 186 ∨ 195 ≤ c → τ c = σ c := fun c c1 c2 c3 c4 => by
    have := hF.1 c (by omega) (by omega) (by omega) (by omega) (by omega) (by omega)
    rw [up_ne c2, up_ne c3] at this
    exact this
  have hgr : ∀ z, z < n → τ 8 z = σ 8 z := fun z _ => by rw [e _ (by decide) (by decide) (by decide) (by decide)]
  have hen : ∀ g, 776 ≤ g → τ 2 g = σ 2 g ∧ τ 3 g = σ 3 g ∧ τ 4 g = σ 4 g ∧ τ 6 g = σ 6 g := fun g hg => hF.2 g (by omega)
  refine ⟨hW.2.2.2.2, cRo_gr (Nat.le_refl _) (fun c c1 c2 => e c (by omega) (by omega) (by omega) (by omega)) h2, cSe_eq hgr (by rw [e 13 (by decide) (by decide) (by decide) (by decide)]) (e _ (by decide) (by decide) (by decide) (by decide)) (e _ (by decide) (by decide) (by decide) (by decide)) h3, cCl_eq (by rw [e 13 (by decide) (by decide) (by decide) (by decide)]) (fun c c1 c2 => e c (by omega) (by omega) (by omega) (by omega)) h4, cKn_eq (by rw [e 13 (by decide) (by decide) (by decide) (by decide)]) h5, nW_w hW, cKw_eq2 (e _ (by decide) (by decide) (by decide) (by decide)) (e _ (by decide) (by decide) (by decide) (by decide)) (e _ (by decide) (by decide) (by decide) (by decide)) (fun g g1 _ => hen g (by omega)) h7, cKw_eq2 (e _ (by decide) (by decide) (by decide) (by decide)) (e _ (by decide) (by decide) (by decide) (by decide)) (e _ (by decide) (by decide) (by decide) (by decide)) (fun g g1 _ => hen g (by omega)) h8, ?_, cSr_eq hgr (by rw [e 196 (by decide) (by decide) (by decide) (by decide)]) (e _ (by decide) (by decide) (by decide) (by decide)) (e _ (by decide) (by decide) (by decide) (by decide)) (e _ (by decide) (by decide) (by decide) (by decide)) (by rw [e 195 (by decide) (by decide) (by decide) (by decide)]) (e _ (by decide) (by decide) (by decide) (by decide)) h10, cQ_eq (e _ (by decide) (by decide) (by decide) (by decide)) (e _ (by decide) (by decide) (by decide) (by decide)) h11⟩
  unfold cRu
  rw [h181 _ (by decide), h181 _ (by decide), e 183 (by decide) (by decide) (by decide) (by decide), e 182 (by decide) (by decide) (by decide) (by decide)]
  rcases h9 with q | ⟨q1, q2, q3, q4⟩
  · exact Or.inl q
  · refine Or.inr ⟨q1, q2, cV_eq hgr q3, ?_⟩
    rcases hg with hg | ⟨g, g1, g2⟩
    · exact Or.inl hg
    · exact Or.inr ⟨g, g1, g2, fun _ => ⟨u, hW.1.2.2.1, hW.1.2.2.2.2.2, hW.2.2.2.1⟩⟩
set_option maxRecDepth 100000 in
set_option maxHeartbeats 4000000 in
theorem mc_eventOf (L : Nat) (xs : Nat → Int32) (d : Nat) (σ : kS) (n R S s : Nat) (x : Int32) (hRo : cRo σ n R) (hS4 : S ≤ 4) (hSr : ∀ s, s < S → ∃ r, r < R ∧ σ 15 s = nI r) (hs : s < S) : kXM kT L xs (d + 1) 69 [.ref 181, .int (nI s), .int x] σ (fun q σ' => (q = some .null ∨ ∃ r k, r < 4 ∧ k < 6 ∧ q = some (.ref (28 + 35 * r + 5 * k)) ∧ cE σ n (28 + 35 * r + 5 * k)) ∧ σ = σ') := by
  have hR4 := hRo.1
  obtain ⟨r, hr, hr2⟩ := hSr s hs
  obtain ⟨v, e, v1, e1, v2, e2, so1, ev1⟩ := hRo.2.2 r hr
  have hr4 : r < 4 := by omega
  unfold kXM
  have k39 : kX kT L xs (d + 1) 69 39 [(3, .ref (23 + 35 * r)), (0, .ref 181), (1, .int (nI s)), (2, .int x)] [] σ (fun q σ' => (q = some .null ∨ ∃ r k, r < 4 ∧ k < 6 ∧ q = some (.ref (28 + 35 * r + 5 * k)) ∧ cE σ n (28 + 35 * r + 5 * k)) ∧ σ = σ') := by
    iterate 1 (refine kX_one rfl ?_)
    refine kX_ret (i := .areturn) (len := 1) rfl (Or.inr rfl) rfl ⟨Or.inl rfl, rfl⟩
  iterate 7 (refine kX_one rfl ?_)
  refine kX_ialdV rfl rfl (by decide) (s) (by first | rfl | decide) (by omega) (hr2) ?_
  refine kX_aaldN rfl (rfl) (by decide) (by decide) (by decide) (r) (by first | rfl | decide) (hr4) (ro_at hr4) ?_
  iterate 2 (refine kX_one rfl ?_)
  repeat refine kX_one rfl ?_
  refine kX_if (fun q => ?_) (fun q => ?_)
  · exact kX_lv _ rfl rfl rfl k39
  · have q : ¬ x < 0 := of_decide_eq_false q
    obtain ⟨k, hk, rfl⟩ := nI_of q
    iterate 2 (refine kX_one rfl ?_)
    refine kX_getN rfl rfl (kT_ro hr4) rfl ?_
    refine kX_top (e2) ?_
    repeat refine kX_one rfl ?_
    refine kX_if (fun q2 => ?_) (fun q2 => ?_)
    · exact kX_lv _ rfl rfl rfl k39
    · have q2 := qgeF q2 k e
      have hk6 : k < 6 := by omega
      iterate 1 (refine kX_one rfl ?_)
      refine kX_getN rfl rfl (kT_ro hr4) rfl ?_
      iterate 1 (refine kX_one rfl ?_)
      refine kX_aaldN rfl (kT_re hr4) (by decide) (by decide) (by decide) (k) (by first | rfl | decide) (hk6) (ev_at hk6) ?_
      iterate 1 (refine kX_one rfl ?_)
      refine kX_ret (i := .areturn) (len := 1) rfl (Or.inr rfl) rfl ⟨Or.inr ⟨r, k, hr4, hk6, rfl, ev1 k q2⟩, rfl⟩
theorem ix7z (s : Nat) : nI s * (Int8.ofInt 7).toInt32 + Int32.ofInt 1 = nI (7 * s + 1) := by
  rw [show (Int8.ofInt 7).toInt32 = nI 7 from rfl, pk_mul, show Int32.ofInt 1 = nI 1 from rfl, nI_add, Nat.mul_comm s 7]
set_option maxRecDepth 100000 in
set_option maxHeartbeats 4000000 in
theorem mc_gather (L : Nat) (xs : Nat → Int32) (d : Nat) (σ : kS) (n R S C c : Nat) (h : cJ σ n R S C) (hc : c ≤ 24) (hcc : σ 181 7 = nI c) (hmv : ∀ i, i < c → ∃ s, s < S ∧ σ 183 i = nI s) (hV : cV σ n S (σ 182) 0) : kXM kT L xs (d + 54) 68 [.ref 181] σ (fun r σ' => r = none ∧ nF (va_up σ 184 (σ' 184)) σ' 186 200 ∧ ∃ u, nW σ' 186 200 n u) := by
  have hK : isK 186 200 := Or.inl ⟨rfl, rfl⟩
  obtain ⟨hT, hRo, hSe, -, ⟨kn, kn1, kn2⟩, hKw, -⟩ := h
  have hn := hT.1
  have hS4 := hSe.1
  have hSr := hSe.2.2.1
  obtain ⟨u0, hB0, hR0, he0⟩ := cKw_n hK hT hKw
  unfold kXM
  iterate 4 (refine kX_one rfl ?_)
  refine kX_cal (mc_beginKn L xs (d + 50) σ 186 200 n u0 kn hB0 he0 hT kn1 kn2) rfl (Or.inr rfl) rfl rfl rfl (fun r1 ρ q1 => ?_)
  obtain ⟨rfl, hF0, hW0⟩ := q1
  iterate 3 (refine kX_one rfl ?_)
  refine kX_cal (kX_fill (T := kT) L xs (d + 52) 0 ρ (a := 184) (n := 4) (g0 := fun _ => 0) rfl (by decide)) rfl (Or.inr rfl) rfl rfl rfl (fun r1 σ1 q1 => ?_)
  obtain ⟨rfl, rfl⟩ := q1
  have nWt : ∀ τ u f, nW τ 186 200 n u → nW (va_up τ 184 f) 186 200 n u := fun τ u f hW => ⟨hW.1, hW.2.1, hW.2.2.1, hW.2.2.2.1, cT_eq rfl rfl (fun _ _ => ⟨rfl, rfl, rfl, rfl, rfl, rfl⟩) hW.2.2.2.2⟩
  have nFt : ∀ τ f, nF (va_up σ 184 (τ 184)) τ 186 200 → nF (va_up σ 184 ((va_up τ 184 f) 184)) (va_up τ 184 f) 186 200 := fun τ f hF => by
    refine ⟨fun c a1 a2 a3 a4 a5 a6 => ?_, hF.2⟩
    by_cases e : c = 184
    · subst e
      rfl
    · have := hF.1 c a1 a2 a3 a4 a5 a6
      rw [up_ne e] at this ⊢
      rw [up_ne e]
      exact this
  have hcell : ∀ τ, nF (va_up σ 184 (τ 184)) τ 186 200 → ∀ c, 7 ≤ c → c ≠ 184 → c < 186 ∨ 195 ≤ c → τ c = σ c := fun τ hF c c1 c2 c3 => by
    have := hF.1 c c3 (by omega) (by omega) (by omega) (by omega) (by omega)
    rw [up_ne c2] at this
    exact this
  have loop : ∀ q : Nat × kS × Nat, (q.1 ≤ c ∧ nF (va_up σ 184 (q.2.1 184)) q.2.1 186 200 ∧ nW q.2.1 186 200 n q.2.2) → kX kT L xs (d + 54) 68 21 [(1, .int (nI q.1)), (0, .ref 181)] [] q.2.1 (fun r σ' => r = none ∧ nF (va_up σ 184 (σ' 184)) σ' 186 200 ∧ ∃ u, nW σ' 186 200 n u) := by
    refine kX_while (fun q : Nat × kS × Nat => [(1, .int (nI q.1)), (0, .ref 181)]) (fun q => q.2.1) _ (fun q => c - q.1) ?_
    rintro ⟨i, τ, u⟩ ⟨i1, i2, i3⟩ ih
    dsimp only at i1 i2 i3 ih ⊢
    iterate 3 (refine kX_one rfl ?_)
    refine kX_top (y := nI c) (by rw [hcell τ i2 181 (by decide) (by decide) (by decide)]; exact hcc) ?_
    repeat refine kX_one rfl ?_
    refine kX_if (fun q => ?_) (fun q => ?_)
    · iterate 2 (refine kX_one rfl ?_)
      refine kX_cal (mc_takeApart L xs d τ 186 200 n u i3.1 i3.2.1) rfl (Or.inr rfl) rfl rfl rfl (fun r1 σ1 q1 => ?_)
      obtain ⟨rfl, hP⟩ := q1
      refine kX_ret (i := .return_) (len := 1) rfl (Or.inr rfl) rfl ⟨rfl, ?_, u, nW_P i3 hP⟩
      rw [hP.1 184 (by decide)]
      exact nF_trans i2 (nF_P hK hP)
    · have q := qgeF q i c
      obtain ⟨s, hs, hs2⟩ := hmv i q
      have hs4 : s < 4 := by omega
      have hRo2 : cRo τ n R := cRo_gr (Nat.le_refl _) (fun e e1 e2 => hcell τ i2 e (by omega) (by omega) (by omega)) hRo
      have hSr2 : ∀ s, s < S → ∃ r, r < R ∧ τ 15 s = nI r := by
        rw [hcell τ i2 15 (by decide) (by decide) (by decide)]
        exact hSr
      have k101 : ∀ (ev : Value) τ' u', ev = .null ∨ (∃ a, ev = .ref a) → nF (va_up σ 184 (τ' 184)) τ' 186 200 → nW τ' 186 200 n u' → ∀ lv, nk lv = true → ([(1, .int (nI i)), (0, .ref 181)] : jL).map (fun q => jl lv q.1) = ([(1, Value.int (nI i)), (0, .ref 181)] : jL).map (fun q => some q.2) → kX kT L xs (d + 54) 68 101 lv [] τ' (fun r σ' => r = none ∧ nF (va_up σ 184 (σ' 184)) σ' 186 200 ∧ ∃ u, nW σ' 186 200 n u) := by
        intro ev τ' u' _ x1 x2 lv hk hlv
        refine kX_lv _ hk rfl hlv ?_
        iterate 2 (refine kX_one rfl ?_)
        have := ih (i + 1, τ', u') ⟨q, x1, x2⟩ (by simp only; omega)
        dsimp only at this
        rw [← nI_1] at this
        exact kX_lv _ rfl rfl rfl this
      iterate 3 (refine kX_one rfl ?_)
      refine kX_ialdV rfl rfl (by decide) (i) (by first | rfl | decide) (by omega) ((congrFun (hcell τ i2 _ (by decide) (by decide) (by decide)) i).trans hs2) ?_
      iterate 6 (refine kX_one rfl ?_)
      refine kX_ialdN rfl rfl (by decide) (s) (by first | rfl | decide) (hs4) ?_
      refine kX_cal (mc_eventOf L xs (d + 52) τ n R S s _ hRo2 hS4 hSr2 hs) rfl (Or.inr rfl) rfl rfl rfl (fun r1 σ1 q1 => ?_)
      obtain ⟨hq, rfl⟩ := q1
      rcases hq with rfl | ⟨r, k, hr4, hk6, rfl, hE⟩
      · iterate 5 (refine kX_one rfl ?_)
        refine kX_ialdN rfl rfl (by decide) (s) (by first | rfl | decide) (hs4) ?_
        iterate 2 (refine kX_one rfl ?_)
        refine kX_iastN rfl rfl (by decide) (s) (by first | rfl | decide) (hs4) ?_
        iterate 2 (refine kX_one rfl ?_)
        exact k101 .null _ u (Or.inl rfl) (nFt τ _ i2) (nWt τ u _ i3) _ rfl rfl
      · iterate 5 (refine kX_one rfl ?_)
        refine kX_ialdN rfl rfl (by decide) (s) (by first | rfl | decide) (hs4) ?_
        iterate 2 (refine kX_one rfl ?_)
        refine kX_iastN rfl rfl (by decide) (s) (by first | rfl | decide) (hs4) ?_
        have hF3 := nFt τ (upd (τ 184) s (τ 184 s + Int32.ofInt 1)) i2
        have hW3 := nWt τ u (upd (τ 184) s (τ 184 s + Int32.ofInt 1)) i3
        obtain ⟨t, mm, qq, t1, -, -, t2, -⟩ := hE
        iterate 3 (refine kX_one rfl ?_)
        refine kX_getN rfl rfl (kT_ev hr4 hk6) rfl ?_
        repeat refine kX_one rfl ?_
        refine kX_if (fun q2 => ?_) (fun q2 => ?_)
        · exact k101 .null _ u (Or.inl rfl) hF3 hW3 _ rfl rfl
        · have hv : ∀ p, p < 6 → gV (va_up τ 184 (upd (τ 184) s (τ 184 s + Int32.ofInt 1))) n ((va_up τ 184 (upd (τ 184) s (τ 184 s + Int32.ofInt 1))) 182 (7 * s + 1 + p)) := fun p hp => by
            show gV τ n (τ 182 (7 * s + 1 + p))
            rw [hcell τ i2 182 (by decide) (by decide) (by decide)]
            have := hV s p hs hp
            rw [show 0 + 7 * s + 1 + p = 7 * s + 1 + p by omega] at this
            exact gV_up (Nat.le_refl _) (fun z _ => by rw [hcell τ i2 8 (by decide) (by decide) (by decide)]) this
          generalize va_up τ 184 (upd (τ 184) s (τ 184 s + Int32.ofInt 1)) = ω at *
          iterate 5 (refine kX_one rfl ?_)
          refine kX_getN rfl rfl (kT_ev hr4 hk6) rfl ?_
          iterate 7 (refine kX_one rfl ?_)
          refine kX_top (y := nI (7 * s + 1)) (ix7z s) ?_
          iterate 1 (refine kX_one rfl ?_)
          refine kX_cal (mc_groundOf L xs 186 200 n 182 28 (7 * s + 1) (fun _ => 0) rfl (by decide) (by decide) (by omega) 49 d 0 u ω _ rfl hW3 hv) rfl (Or.inr rfl) rfl rfl rfl (fun r1 σ2 q1 => ?_)
          obtain ⟨u1, v1, x1, rfl, x3, x4, x5⟩ := q1
          iterate 2 (refine kX_one rfl ?_)
          refine kX_cal (mc_add L xs (d + 51) σ2 186 200 n u1 v1 _ _ x5.1 x5.2.1) rfl (Or.inr rfl) rfl rfl rfl (fun r1 σ3 q1 => ?_)
          obtain ⟨hq, hP⟩ := q1
          have hF4 : nF (va_up σ 184 (σ3 184)) σ3 186 200 := by
            rw [hP.1 184 (by decide), x4.1 184 (by decide) (by decide) (by decide) (by decide) (by decide) (by decide)]
            exact nF_trans hF3 (nF_trans x4 (nF_P hK hP))
          rcases hq with rfl | rfl
          · iterate 1 (refine kX_one rfl ?_)
            exact k101 .null _ u1 (Or.inl rfl) hF4 (nW_P x5 hP) _ rfl rfl
          · iterate 1 (refine kX_one rfl ?_)
            exact k101 .null _ u1 (Or.inl rfl) hF4 (nW_P x5 hP) _ rfl rfl
  iterate 2 (refine kX_one rfl ?_)
  refine kX_lv _ rfl rfl rfl (loop (0, va_up ρ 184 (fun j => if j < 4 then 0 else ρ 184 j), 0) ⟨Nat.zero_le _, nFt ρ _ ?_, nWt ρ 0 _ hW0⟩)
  have e184 : ρ 184 = σ 184 := hF0.1 _ (by decide) (by decide) (by decide) (by decide) (by decide) (by decide)
  rw [e184, kup_self]
  exact hF0
