/-! the class: fillKnowledge -/
theorem cKw_n {σ : kS} {K st n : Nat} (hK : isK K st) (hT : cT σ n) (h : cKw σ K st) : ∃ u, nB σ K st n u ∧ nR σ K ∧ cKe σ K st u := by
  obtain ⟨h1, u, ln, h2, h3, h4, h5, h6, h7⟩ := h
  exact ⟨u, ⟨hK, hT.1, h2, hT.2.1, h1, h4⟩, ⟨ln, h3, h5, h6⟩, h7⟩
theorem nW_w {σ : kS} {K st n u : Nat} (h : nW σ K st n u) : cKw σ K st := by
  obtain ⟨⟨a1, a2, a3, a4, a5, a6⟩, ⟨ln, l1, l2, l3⟩, he, -, -⟩ := h
  exact ⟨a5, u, ln, a3, l1, a6, l2, l3, he⟩
theorem ix7w (base s : Nat) : nI base + nI s * (Int8.ofInt 7).toInt32 + Int32.ofInt 1 = nI (base + 7 * s + 1) := by
  rw [ix7, show Int32.ofInt 1 = nI 1 from rfl, nI_add, Nat.mul_comm s 7]
set_option maxRecDepth 100000 in
set_option maxHeartbeats 4000000 in
theorem mc_fill (L : Nat) (xs : Nat → Int32) (d : Nat) (σ : kS) (K st n R S A M base kn : Nat) (g0 : Nat → Int32) (hK : isK K st) (hT : cT σ n) (hRo : cRo σ n R) (hS4 : S ≤ 4) (hSc : σ 13 6 = nI S) (hSr : ∀ s, s < S → ∃ r, r < R ∧ σ 15 s = nI r) (hkn : kn ≤ 20) (hkn2 : σ 13 10 = nI kn) (hKw : cKw σ K st) (hA : kT[A]? = some (.inl (0, M, .inl g0))) (hM : M ≤ 100000) (hA2 : (A < K ∨ K + 9 ≤ A) ∧ 163 ≤ A) (hbm : base + 28 ≤ M) (hV : cV σ n S (σ A) base) : kXM kT L xs (d + 54) 22 [.ref 13, .ref K, .ref A, .int (nI base)] σ (fun r σ' => r = none ∧ nF σ σ' K st ∧ ∃ u, nW σ' K st n u) := by
  have hb := isK_b hK
  have hR4 := hRo.1
  have hn := hT.1
  obtain ⟨u0, hB0, hR0, he0⟩ := cKw_n hK hT hKw
  unfold kXM
  iterate 2 (refine kX_one rfl ?_)
  refine kX_cal (mc_beginKn L xs (d + 50) σ K st n u0 kn hB0 he0 hT hkn hkn2) rfl (Or.inr rfl) rfl rfl rfl (fun r1 ρ q1 => ?_)
  obtain ⟨rfl, hF0, hW0⟩ := q1
  have hcell : ∀ τ, nF σ τ K st → ∀ c, 13 ≤ c → c < K ∨ K + 9 ≤ c → τ c = σ c := fun τ hF c c1 c2 => hF.1 c c2 (by omega) (by omega) (by omega) (by omega) (by omega)
  have k124 : ∀ τ u, nF σ τ K st → nW τ K st n u → ∀ lv, nk lv = true → ([(1, .ref K)] : jL).map (fun q => jl lv q.1) = ([(1, Value.ref K)] : jL).map (fun q => some q.2) → kX kT L xs (d + 54) 22 124 lv [] τ (fun r σ' => r = none ∧ nF σ σ' K st ∧ ∃ u, nW σ' K st n u) := by
    intro τ u hF hW lv hk hlv
    refine kX_lv _ hk rfl hlv ?_
    iterate 1 (refine kX_one rfl ?_)
    refine kX_cal (mc_takeApart L xs d τ K st n u hW.1 hW.2.1) rfl (Or.inr rfl) rfl (jcall_v rfl rfl rfl (kT_kn hK) rfl rfl) rfl (fun r1 σ1 q1 => ?_)
    obtain ⟨rfl, hP⟩ := q1
    refine kX_ret (i := .return_) (len := 1) rfl (Or.inr rfl) rfl (⟨rfl, nF_trans hF (nF_P hK hP), u, nW_P hW hP⟩)
  have inner : ∀ s r e : Nat, s < S → r < R → e ≤ 6 → σ (23 + 35 * r) 5 = nI e → (∀ k, k < e → cE σ n (28 + 35 * r + 5 * k)) → ∀ done : Int32, (∀ τ u, nF σ τ K st → nW τ K st n u → kX kT L xs (d + 54) 22 118 [(4, .int (nI s)), (0, .ref 13), (1, .ref K), (2, .ref A), (3, .int (nI base))] [] τ (fun r σ' => r = none ∧ nF σ σ' K st ∧ ∃ u, nW σ' K st n u)) → ∀ q : Nat × kS × Nat, (q.1 ≤ e ∧ nF σ q.2.1 K st ∧ nW q.2.1 K st n q.2.2) → kX kT L xs (d + 54) 22 44 [(7, .int (nI q.1)), (6, .int done), (5, .ref (23 + 35 * r)), (4, .int (nI s)), (0, .ref 13), (1, .ref K), (2, .ref A), (3, .int (nI base))] [] q.2.1 (fun r σ' => r = none ∧ nF σ σ' K st ∧ ∃ u, nW σ' K st n u) := by
    intro s r e hs hr he6 hec hce done hgo
    have hr4 : r < 4 := by omega
    refine kX_while (fun q : Nat × kS × Nat => [(7, .int (nI q.1)), (6, .int done), (5, .ref (23 + 35 * r)), (4, .int (nI s)), (0, .ref 13), (1, .ref K), (2, .ref A), (3, .int (nI base))]) (fun q => q.2.1) _ (fun q => e - q.1) ?_
    rintro ⟨k, τ, u⟩ ⟨i1, i2, i3⟩ ih
    dsimp only at i1 i2 i3 ih ⊢
    iterate 2 (refine kX_one rfl ?_)
    repeat refine kX_one rfl ?_
    refine kX_if (fun q => ?_) (fun q => ?_)
    · exact kX_lv _ rfl rfl rfl (hgo τ u i2 i3)
    · iterate 2 (refine kX_one rfl ?_)
      refine kX_getN rfl rfl (kT_ro hr4) rfl ?_
      refine kX_top (y := nI e) (by rw [hcell τ i2 _ (by omega) (by omega)]; exact hec) ?_
      repeat refine kX_one rfl ?_
      refine kX_if (fun q2 => ?_) (fun q2 => ?_)
      · exact kX_lv _ rfl rfl rfl (hgo τ u i2 i3)
      · have q2 := qgeF q2 k e
        have hk6 : k < 6 := by omega
        have k112 : ∀ τ' u', nF σ τ' K st → nW τ' K st n u' → kX kT L xs (d + 54) 22 112 [(7, .int (nI k)), (6, .int done), (5, .ref (23 + 35 * r)), (4, .int (nI s)), (0, .ref 13), (1, .ref K), (2, .ref A), (3, .int (nI base))] [] τ' (fun r σ' => r = none ∧ nF σ σ' K st ∧ ∃ u, nW σ' K st n u) := by
          intro τ' u' x1 x2
          iterate 2 (refine kX_one rfl ?_)
          have := ih (k + 1, τ', u') ⟨q2, x1, x2⟩ (by simp only; omega)
          dsimp only at this
          rw [← nI_1] at this
          exact kX_lv _ rfl rfl rfl this
        obtain ⟨t, mm, qq, t1, -, -, t2, -⟩ := hce k q2
        have hv : ∀ p, p < 6 → gV τ n (τ A (base + 7 * s + 1 + p)) := fun p hp => by
          rw [hcell τ i2 A (by omega) hA2.1]
          exact gV_up (Nat.le_refl _) (fun z _ => by rw [nF_gr hK i2]) (hV s p hs hp)
        iterate 1 (refine kX_one rfl ?_)
        refine kX_getN rfl rfl (kT_ro hr4) rfl ?_
        iterate 1 (refine kX_one rfl ?_)
        refine kX_aaldN rfl (kT_re hr4) (by decide) (by decide) (by decide) (k) (by first | rfl | decide) (hk6) (ev_at hk6) ?_
        refine kX_getN rfl rfl (kT_ev hr4 hk6) rfl ?_
        repeat refine kX_one rfl ?_
        refine kX_if (fun q3 => ?_) (fun q3 => ?_)
        · exact k112 τ u i2 i3
        · iterate 2 (refine kX_one rfl ?_)
          refine kX_getN rfl rfl (kT_ro hr4) rfl ?_
          iterate 1 (refine kX_one rfl ?_)
          refine kX_aaldN rfl (kT_re hr4) (by decide) (by decide) (by decide) (k) (by first | rfl | decide) (hk6) (ev_at hk6) ?_
          refine kX_getN rfl rfl (kT_ev hr4 hk6) rfl ?_
          iterate 8 (refine kX_one rfl ?_)
          refine kX_top (y := nI (base + 7 * s + 1)) (ix7w base s) ?_
          iterate 1 (refine kX_one rfl ?_)
          refine kX_cal (mc_groundOf L xs K st n A M (base + 7 * s + 1) g0 hA hM (by omega) (by omega) 49 d 0 u τ _ rfl i3 hv) rfl (Or.inr rfl) rfl (jcall_v rfl rfl rfl (kT_kn hK) rfl rfl) rfl (fun r1 σ1 q1 => ?_)
          obtain ⟨u1, v1, x1, rfl, x3, x4, x5⟩ := q1
          iterate 5 (refine kX_one rfl ?_)
          refine kX_cal (mc_add L xs (d + 51) σ1 K st n u1 v1 _ _ x5.1 x5.2.1) rfl (Or.inr rfl) rfl (jcall_v rfl rfl rfl (kT_kn hK) rfl rfl) rfl (fun r1 σ2 q1 => ?_)
          obtain ⟨hq, hP⟩ := q1
          have hF2 := nF_trans i2 (nF_trans x4 (nF_P hK hP))
          rcases hq with rfl | rfl
          · iterate 1 (refine kX_one rfl ?_)
            exact kX_lv _ rfl rfl rfl (k112 σ2 u1 hF2 (nW_P x5 hP))
          · iterate 1 (refine kX_one rfl ?_)
            exact kX_lv _ rfl rfl rfl (k112 σ2 u1 hF2 (nW_P x5 hP))
  have outer : ∀ q : Nat × kS × Nat, (q.1 ≤ S ∧ nF σ q.2.1 K st ∧ nW q.2.1 K st n q.2.2) → kX kT L xs (d + 54) 22 8 [(4, .int (nI q.1)), (0, .ref 13), (1, .ref K), (2, .ref A), (3, .int (nI base))] [] q.2.1 (fun r σ' => r = none ∧ nF σ σ' K st ∧ ∃ u, nW σ' K st n u) := by
    refine kX_while (fun q : Nat × kS × Nat => [(4, .int (nI q.1)), (0, .ref 13), (1, .ref K), (2, .ref A), (3, .int (nI base))]) (fun q => q.2.1) _ (fun q => S - q.1) ?_
    rintro ⟨s, τ, u⟩ ⟨i1, i2, i3⟩ ih
    dsimp only at i1 i2 i3 ih ⊢
    iterate 3 (refine kX_one rfl ?_)
    refine kX_top (y := nI S) (by rw [hcell τ i2 13 (by omega) (by omega)]; exact hSc) ?_
    repeat refine kX_one rfl ?_
    refine kX_if (fun q => ?_) (fun q => ?_)
    · exact k124 τ u i2 i3 _ rfl rfl
    · have q := qgeF q s S
      obtain ⟨r, hr, hr2⟩ := hSr s q
      obtain ⟨v, e, v1, e1, v2, e2, so1, ev1⟩ := hRo.2.2 r hr
      have hr4 : r < 4 := by omega
      iterate 5 (refine kX_one rfl ?_)
      refine kX_ialdV rfl rfl (by decide) (s) (by first | rfl | decide) (by omega) ((congrFun (hcell τ i2 _ (by decide) (by omega)) s).trans hr2) ?_
      refine kX_aaldN rfl (rfl) (by decide) (by decide) (by decide) (r) (by first | rfl | decide) (hr4) (ro_at hr4) ?_
      iterate 5 (refine kX_one rfl ?_)
      refine kX_cal (mc_doneBy L xs (d + 52) τ A M base s g0 hA hM (by omega)) rfl (Or.inr rfl) rfl rfl rfl (fun r1 σ1 q1 => ?_)
      obtain ⟨rfl, rfl⟩ := q1
      iterate 3 (refine kX_one rfl ?_)
      refine kX_lv _ rfl rfl rfl (inner s r e q hr e1 e2 ev1 _ (fun τ' u' x1 x2 => ?_) (0, τ, u) ⟨Nat.zero_le _, i2, i3⟩)
      iterate 2 (refine kX_one rfl ?_)
      have := ih (s + 1, τ', u') ⟨q, x1, x2⟩ (by simp only; omega)
      dsimp only at this
      rw [← nI_1] at this
      exact kX_lv _ rfl rfl rfl this
  iterate 2 (refine kX_one rfl ?_)
  exact kX_lv _ rfl rfl rfl (outer (0, ρ, 0) ⟨Nat.zero_le _, hF0, hW0⟩)
set_option maxRecDepth 100000 in
set_option maxHeartbeats 4000000 in
theorem mc_due (L : Nat) (xs : Nat → Int32) (d : Nat) (σ : kS) (n R S A M base s : Nat) (g0 : Nat → Int32) (hRo : cRo σ n R) (hS4 : S ≤ 4) (hSr : ∀ s, s < S → ∃ r, r < R ∧ σ 15 s = nI r) (hs : s < S) (hA : kT[A]? = some (.inl (0, M, .inl g0))) (hM : M ≤ 100000) (hbm : base + 28 ≤ M) : kXM kT L xs (d + 2) 18 [.ref 13, .ref A, .int (nI base), .int (nI s)] σ (fun q σ' => (q = some .null ∨ ∃ r k, r < 4 ∧ k < 6 ∧ q = some (.ref (28 + 35 * r + 5 * k)) ∧ cE σ n (28 + 35 * r + 5 * k)) ∧ σ = σ') := by
  have hR4 := hRo.1
  obtain ⟨r, hr, hr2⟩ := hSr s hs
  obtain ⟨v, e, v1, e1, v2, e2, so1, ev1⟩ := hRo.2.2 r hr
  have hr4 : r < 4 := by omega
  unfold kXM
  iterate 5 (refine kX_one rfl ?_)
  refine kX_ialdV rfl rfl (by decide) (s) (by first | rfl | decide) (by omega) (hr2) ?_
  refine kX_aaldN rfl (rfl) (by decide) (by decide) (by decide) (r) (by first | rfl | decide) (hr4) (ro_at hr4) ?_
  iterate 5 (refine kX_one rfl ?_)
  refine kX_cal (mc_doneBy L xs d σ A M base s g0 hA hM (by omega)) rfl (Or.inr rfl) rfl rfl rfl (fun r1 σ1 q1 => ?_)
  obtain ⟨rfl, rfl⟩ := q1
  generalize σ A (base + 7 * s) = x
  have k48 : kX kT L xs (d + 2) 18 48 [(5, .int x), (4, .ref (23 + 35 * r)), (0, .ref 13), (1, .ref A), (2, .int (nI base)), (3, .int (nI s))] [] σ (fun q σ' => (q = some .null ∨ ∃ r k, r < 4 ∧ k < 6 ∧ q = some (.ref (28 + 35 * r + 5 * k)) ∧ cE σ n (28 + 35 * r + 5 * k)) ∧ σ = σ') := by
    iterate 1 (refine kX_one rfl ?_)
    refine kX_ret (i := .areturn) (len := 1) rfl (Or.inr rfl) rfl ⟨Or.inl rfl, rfl⟩
  iterate 2 (refine kX_one rfl ?_)
  repeat refine kX_one rfl ?_
  refine kX_if (fun q => ?_) (fun q => ?_)
  · exact kX_lv _ rfl rfl rfl k48
  · have q : ¬ x < 0 := of_decide_eq_false q
    obtain ⟨k, hk, rfl⟩ := nI_of q
    iterate 2 (refine kX_one rfl ?_)
    refine kX_getN rfl rfl (kT_ro hr4) rfl ?_
    refine kX_top (e2) ?_
    repeat refine kX_one rfl ?_
    refine kX_if (fun q2 => ?_) (fun q2 => ?_)
    · exact kX_lv _ rfl rfl rfl k48
    · have q2 := qgeF q2 k e
      have hk6 : k < 6 := by omega
      iterate 1 (refine kX_one rfl ?_)
      refine kX_getN rfl rfl (kT_ro hr4) rfl ?_
      iterate 1 (refine kX_one rfl ?_)
      refine kX_aaldN rfl (kT_re hr4) (by decide) (by decide) (by decide) (k) (by first | rfl | decide) (hk6) (ev_at hk6) ?_
      iterate 1 (refine kX_one rfl ?_)
      refine kX_ret (i := .areturn) (len := 1) rfl (Or.inr rfl) rfl ⟨Or.inr ⟨r, k, hr4, hk6, rfl, ev1 k q2⟩, rfl⟩
set_option maxRecDepth 100000 in
set_option maxHeartbeats 4000000 in
theorem mc_hasDoneAll (L : Nat) (xs : Nat → Int32) (d : Nat) (σ : kS) (n R S A M base s : Nat) (g0 : Nat → Int32) (hRo : cRo σ n R) (hS4 : S ≤ 4) (hSr : ∀ s, s < S → ∃ r, r < R ∧ σ 15 s = nI r) (hs : s < S) (hA : kT[A]? = some (.inl (0, M, .inl g0))) (hM : M ≤ 100000) (hbm : base + 28 ≤ M) : kXM kT L xs (d + 2) 19 [.ref 13, .ref A, .int (nI base), .int (nI s)] σ (fun q σ' => (q = some (.int 0) ∨ q = some (.int 1)) ∧ σ = σ') := by
  have hR4 := hRo.1
  obtain ⟨r, hr, hr2⟩ := hSr s hs
  have hr4 : r < 4 := by omega
  unfold kXM
  iterate 4 (refine kX_one rfl ?_)
  refine kX_cal (mc_doneBy L xs d σ A M base s g0 hA hM (by omega)) rfl (Or.inr rfl) rfl rfl rfl (fun r1 σ1 q1 => ?_)
  obtain ⟨rfl, rfl⟩ := q1
  iterate 5 (refine kX_one rfl ?_)
  refine kX_ialdV rfl rfl (by decide) (s) (by first | rfl | decide) (by omega) (hr2) ?_
  refine kX_aaldN rfl (rfl) (by decide) (by decide) (by decide) (r) (by first | rfl | decide) (hr4) (ro_at hr4) ?_
  refine kX_getN rfl rfl (kT_ro hr4) rfl ?_
  repeat refine kX_one rfl ?_
  refine kX_if (fun q => ?_) (fun q => ?_)
  · repeat refine kX_one rfl ?_
    refine kX_ret (i := .ireturn) (len := 1) rfl (Or.inr rfl) rfl (⟨Or.inl rfl, rfl⟩)
  · repeat refine kX_one rfl ?_
    refine kX_ret (i := .ireturn) (len := 1) rfl (Or.inr rfl) rfl (⟨Or.inr rfl, rfl⟩)
