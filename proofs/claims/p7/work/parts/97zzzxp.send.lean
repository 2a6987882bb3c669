/-! alike: send -/
set_option maxRecDepth 100000 in
set_option maxHeartbeats 4000000 in
theorem mf_due (L : Nat) (xs : Nat → Int32) (d : Nat) (σ : kS) (n R S A M base s r ev : Nat) (g0 : Nat → Int32) (hRo : cRo σ n R) (hS4 : S ≤ 4) (hr : r < R) (hr2 : σ 15 s = nI r) (hev : σ (23 + 35 * r) 5 = nI ev) (hs : s < S) (hev6 : ev ≤ 6) (hA : kT[A]? = some (.inl (0, M, .inl g0))) (hM : M ≤ 100000) (hbm : base + 28 ≤ M) : kXM kT L xs (d + 2) 18 [.ref 13, .ref A, .int (nI base), .int (nI s)] σ (fun q σ' => ((q = some .null ∧ ∀ k, k < ev → σ A (base + 7 * s) ≠ nI k) ∨ ∃ k, k < ev ∧ σ A (base + 7 * s) = nI k ∧ q = some (.ref (28 + 35 * r + 5 * k)) ∧ cE σ n (28 + 35 * r + 5 * k)) ∧ σ = σ') := by
  have hR4 := hRo.1
  obtain ⟨v, e, v1, e1, v2, e2, so1, ev1⟩ := hRo.2.2 r hr
  obtain rfl : ev = e := nI_inj (hev.symm.trans e2)
  have hr4 : r < 4 := by omega
  unfold kXM
  iterate 5 (refine kX_one rfl ?_)
  refine kX_ialdV rfl rfl (by decide) (s) (by first | rfl | decide) (by omega) (hr2) ?_
  refine kX_aaldN rfl (rfl) (by decide) (by decide) (by decide) (r) (by first | rfl | decide) (hr4) (ro_at hr4) ?_
  iterate 5 (refine kX_one rfl ?_)
  refine kX_cal (mc_doneBy L xs d σ A M base s g0 hA hM (by omega)) rfl (Or.inr rfl) rfl rfl rfl (fun r1 σ1 q1 => ?_)
  obtain ⟨rfl, rfl⟩ := q1
  generalize σ A (base + 7 * s) = x
  have k48 : (∀ k, k < ev → x ≠ nI k) → kX kT L xs (d + 2) 18 48 [(5, .int x), (4, .ref (23 + 35 * r)), (0, .ref 13), (1, .ref A), (2, .int (nI base)), (3, .int (nI s))] [] σ (fun q σ' => ((q = some .null ∧ ∀ k, k < ev → x ≠ nI k) ∨ ∃ k, k < ev ∧ x = nI k ∧ q = some (.ref (28 + 35 * r + 5 * k)) ∧ cE σ n (28 + 35 * r + 5 * k)) ∧ σ = σ') := by
    intro hno
    iterate 1 (refine kX_one rfl ?_)
    refine kX_ret (i := .areturn) (len := 1) rfl (Or.inr rfl) rfl ⟨Or.inl ⟨rfl, hno⟩, rfl⟩
  iterate 2 (refine kX_one rfl ?_)
  repeat refine kX_one rfl ?_
  refine kX_if (fun q => ?_) (fun q => ?_)
  · have q : x < 0 := of_decide_eq_true q
    exact kX_lv _ rfl rfl rfl (k48 (fun k hk z => by rw [z] at q; exact nI_pos (by omega) q))
  · have q : ¬ x < 0 := of_decide_eq_false q
    obtain ⟨k, hk, rfl⟩ := nI_of q
    iterate 2 (refine kX_one rfl ?_)
    refine kX_getN rfl rfl (kT_ro hr4) rfl ?_
    refine kX_top (e2) ?_
    repeat refine kX_one rfl ?_
    refine kX_if (fun q2 => ?_) (fun q2 => ?_)
    · have q2 := qge q2 k ev
      exact kX_lv _ rfl rfl rfl (k48 (fun k' hk' z => by have := nI_inj z; omega))
    · have q2 := qgeF q2 k ev
      have hk6 : k < 6 := by omega
      iterate 1 (refine kX_one rfl ?_)
      refine kX_getN rfl rfl (kT_ro hr4) rfl ?_
      iterate 1 (refine kX_one rfl ?_)
      refine kX_aaldN rfl (kT_re hr4) (by decide) (by decide) (by decide) (k) (by first | rfl | decide) (hk6) (ev_at hk6) ?_
      iterate 1 (refine kX_one rfl ?_)
      refine kX_ret (i := .areturn) (len := 1) rfl (Or.inr rfl) rfl ⟨Or.inr ⟨k, q2, rfl, rfl, ev1 k q2⟩, rfl⟩
/-- a step of the class's RUN -/
def spS (σ : kS) (s c : Nat) : kS := va_up (va_up (va_up σ 183 (upd (σ 183) c (nI s))) 182 (upd (σ 182) (7 * s) (σ 182 (7 * s) + Int32.ofInt 1))) 181 (upd (upd (σ 181) 7 (nI (c + 1))) 9 (-1))
set_option maxRecDepth 100000 in
set_option maxHeartbeats 4000000 in
theorem mf_step (L : Nat) (xs : Nat → Int32) (d : Nat) (σ : kS) (n R S C s c : Nat) (h : cJ σ n R S C) (hon : σ 181 8 ≠ 0) (hs : s < S) (hc : c < 24) (hcc : σ 181 7 = nI c) : kXM kT L xs (d + 1) 70 [.ref 181, .int (nI s)] σ (fun r σ' => r = none ∧ σ' = spS σ s c ∧ cJ σ' n R S C) := by
  have hS4 := h.2.2.1.1
  have hRu := h.2.2.2.2.2.2.2.2.1
  rcases hRu with hRu | ⟨on1, ⟨c', c1, c2, c3⟩, hV, hg⟩
  · exact absurd hRu hon
  · obtain rfl : c = c' := nI_inj (hcc.symm.trans c2)
    unfold kXM
    iterate 2 (refine kX_one rfl ?_)
    refine kX_top (c2) ?_
    iterate 1 (refine kX_one rfl ?_)
    repeat refine kX_one rfl ?_
    refine kX_if (fun q => ?_) (fun q => ?_)
    · have q := qge q c 24
      omega
    · iterate 4 (refine kX_one rfl ?_)
      refine kX_top (c2) ?_
      iterate 1 (refine kX_one rfl ?_)
      refine kX_iastN rfl rfl (by decide) (c) (by first | rfl | decide) (by omega) ?_
      iterate 3 (refine kX_one rfl ?_)
      refine kX_top (c2) ?_
      iterate 5 (refine kX_one rfl ?_)
      iterate 3 (refine kX_one rfl ?_)
      refine kX_top (y := nI (7 * s)) (ix7s s) ?_
      iterate 1 (refine kX_one rfl ?_)
      refine kX_ialdN rfl rfl (by decide) (7 * s) (by first | rfl | decide) (by omega) ?_
      iterate 2 (refine kX_one rfl ?_)
      refine kX_iastN rfl rfl (by decide) (7 * s) (by first | rfl | decide) (by omega) ?_
      iterate 3 (refine kX_one rfl ?_)
      refine kX_st (va_up (va_up (va_up σ 183 (upd (σ 183) c (nI s))) 182 (upd (σ 182) (7 * s) (σ 182 (7 * s) + Int32.ofInt 1))) 181 (upd (upd (σ 181) 7 (nI (c + 1))) 9 (-1))) ?_ ?_
      · rw [← nI_1]
        funext c; unfold  va_up; repeat' split
        all_goals first | rfl | omega | (subst_vars; rfl) | (funext j; unfold upd; repeat' split; all_goals first | rfl | omega | (subst_vars; rfl))
      have e : ∀ e, e < 181 ∨ 186 ≤ e → va_up (va_up (va_up σ 183 (upd (σ 183) c (nI s))) 182 (upd (σ 182) (7 * s) (σ 182 (7 * s) + Int32.ofInt 1))) 181 (upd (upd (σ 181) 7 (nI (c + 1))) 9 (-1)) e = σ e := fun e he => by
        rw [up_ne (by omega), up_ne (by omega), up_ne (by omega)]
      refine kX_ret (i := .return_) (len := 1) rfl (Or.inr rfl) rfl ⟨rfl, rfl, cJ_run h e (Or.inr ⟨on1, ⟨c + 1, by omega, rfl, fun i hi => ?_⟩, fun s' k hs' hk => ?_, Or.inl rfl⟩)⟩
      · show ∃ s', s' < S ∧ upd (σ 183) c (nI s) i = nI s'
        by_cases e : i = c
        · subst e
          exact ⟨s, hs, pk_us⟩
        · rw [pk_un e]
          exact c3 i (by omega)
      · show upd (σ 182) (7 * s) _ (0 + 7 * s' + 1 + k) = -1 ∨ ∃ z, z < n ∧ upd (σ 182) (7 * s) _ (0 + 7 * s' + 1 + k) = nI z ∧ σ 8 z = 1
        rw [pk_un (by omega)]
        exact hV s' k hs' hk
/-- both RUNS have changed, nothing else -/
theorem aJ_run {σ ω : kS} {n b b' R S C m : Nat} {kl : List Nat} (h : aJ σ n b R S C kl m) (hI : mI ω n b' R S C kl) (hJ : cJ ω n R S C) (e : ∀ c, c < 232 → c ≠ 181 → c ≠ 182 → c ≠ 183 → ω c = σ c) (er : ∀ c, 232 < c → c ≠ 264 → c ≠ 265 → c ≠ 274 → c ≠ 275 → ω c = σ c) (eo : ∀ j, j ≠ 52 → j ≠ 55 → j ≠ 47 → ω 232 j = σ 232 j) (hU : aU ω n S kl) : aJ ω n b' R S C kl m := by
  obtain ⟨i, -, t, r, s, c, k, -, f, mm⟩ := h
  have hr : ∀ l : List Nat, l.all (fun c => decide (232 < c ∧ c ≠ 264 ∧ c ≠ 265 ∧ c ≠ 274 ∧ c ≠ 275)) = true → eqC σ ω l := eqC_of (fun c q => er c q.1 q.2.1 q.2.2.1 q.2.2.2.1 q.2.2.2.2)
  have hl : ∀ c, c < 181 → ω c = σ c := fun c hc => e c (by omega) (by omega) (by omega) (by omega)
  have hh : ∀ c, 186 ≤ c → c < 232 → ω c = σ c := fun c c1 c2 => e c (by omega) (by omega) (by omega) (by omega)
  exact ⟨hI, hJ, aT_c (fun c c1 c2 => hl c (by omega)) (hr _ (by decide)) t, aR_c i.1 i.2.1 (fun c c1 c2 => hl c (by omega)) (hr _ (by decide)) r, aS_c i.1.1 i.2.1 i.2.2.1 (hl _ (by decide)) (hl _ (by decide)) (hl _ (by decide)) (hr _ (by decide)) s, aC_c i.2.2.2.2.1 (fun c c1 c2 => hl c (by omega)) (hr _ (by decide)) c, aK_eq (by rw [hl 13 (by decide)]) (hl _ (by decide)) k, hU, aF_c i.1 i.2.1 i.2.2.1 (fun c c1 c2 => hl c (by omega)) (hr _ (by decide)) (hh _ (by decide) (by decide)) (hh _ (by decide) (by decide)) (hh _ (by decide) (by decide)) (hh _ (by decide) (by decide)) ⟨eo _ (by decide) (by decide) (by decide), eo _ (by decide) (by decide) (by decide), eo _ (by decide) (by decide) (by decide), eo _ (by decide) (by decide) (by decide)⟩ (hr _ (by decide)) f, aM_eq (Nat.le_refl _) (fun c c1 c2 => hh c c1 (by omega)) mm⟩
def tabC : List Nat := [233, 234, 235, 236, 237, 238, 239, 240, 241]
theorem iE_c {σ τ : kS} {K st n u m : Nat} {l : rwT} (e : ∀ c, c < 232 → τ c = σ c) (hc : eqC σ τ tabC) (h : iE σ K st n u m l) : iE τ K st n u m l := by
  have hb := isK_b h.1
  unfold iE aT1 kTb kAG cpt kMs kRw kMk kIn kTv mA kDp kQf at h ⊢
  simp only [e 1 (by decide), e 2 (by decide), e 3 (by decide), e 4 (by decide), e 5 (by decide), e 8 (by decide), e 9 (by decide), e 10 (by decide), e 11 (by decide), e 12 (by decide), e 6 (by decide), hc 233 (by decide), hc 234 (by decide), hc 235 (by decide), hc 236 (by decide), hc 237 (by decide), hc 238 (by decide), hc 239 (by decide), hc 240 (by decide), hc 241 (by decide), e K (by omega), e (K + 1) (by omega), e (K + 2) (by omega), e (K + 3) (by omega), e (K + 4) (by omega), e (K + 5) (by omega), e (K + 6) (by omega), e (K + 7) (by omega)]
  exact h
/-- the RUN's intruder, seen with another RUN of the reference -/
theorem inQ_vw {σ τ υ υ' : kS} {n u m : Nat} {l : rwT} {tr : trT} (h : inQ σ τ n u m l tr) (hv : vw σ υ) (hv' : vw τ υ') (hh : ∀ c, 232 ≤ c → υ' c = υ c) : inQ υ υ' n u m l tr := by
  obtain ⟨h1, h2, h3, h4, h5, h6, h7, h8⟩ := h
  have e : ∀ c, c < 232 → υ' c = τ c := fun c hc => vw_low hv' hc
  have e0 : ∀ c, c < 232 → υ c = σ c := fun c hc => vw_low hv hc
  have hc : eqC τ υ' tabC := fun c hc => ((vw_c hv' tabC (by decide)) c hc).symm
  refine ⟨⟨⟨fun c a1 a2 a3 a4 a5 a6 => ?_, fun j hj => ?_⟩, fun j hj => ?_⟩, fun j hj => ?_, ?_, iE_c e hc h4, ?_, ?_, ?_, ?_⟩
  · by_cases q : 232 ≤ c
    · rw [up_ne (by omega), up_ne (by omega)]
      exact hh c q
    · by_cases q1 : c = 181
      · subst q1
        rfl
      · by_cases q2 : c = 184
        · subst q2
          rw [up_ne q1, up_eq]
        · have := h1.1.1 c a1 a2 a3 a4 a5 a6
          rw [up_ne q1, up_ne q2] at this ⊢
          rw [e c (by omega), e0 c (by omega)]
          exact this
  · have := h1.1.2 j hj
    rw [up_ne (by decide), up_ne (by decide), up_ne (by decide), up_ne (by decide), up_ne (by decide), up_ne (by decide), up_ne (by decide), up_ne (by decide)] at this ⊢
    rw [e 2 (by decide), e 3 (by decide), e 4 (by decide), e 6 (by decide), e0 2 (by decide), e0 3 (by decide), e0 4 (by decide), e0 6 (by decide)]
    exact this
  · have := h1.2 j hj
    rw [up_ne (by decide), up_ne (by decide)] at this ⊢
    rw [e 5 (by decide), e0 5 (by decide)]
    exact this
  · rw [e 181 (by decide), e0 181 (by decide)]
    exact h2 j hj
  · rw [e 181 (by decide)]
    exact h3
  · unfold cCn cpt at h5 ⊢
    rw [e 2 (by decide), e 3 (by decide), e 4 (by decide), e 7 (by decide), e 6 (by decide)]
    exact h5
  · unfold gR kGd at h6 ⊢
    rw [e 2 (by decide), e 3 (by decide), e 4 (by decide), e 8 (by decide)]
    exact h6
  · rw [e 186 (by decide)]
    exact h7
  · unfold kTr kTv at h8 ⊢
    rw [e 2 (by decide), e 3 (by decide), e 4 (by decide)]
    exact h8
