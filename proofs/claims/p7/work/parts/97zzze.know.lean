/-! alike: know -/
set_option maxRecDepth 100000 in
set_option maxHeartbeats 4000000 in
theorem mg_know (L : Nat) (xs : Nat → Int32) (d : Nat) (σ : kS) (n b R S C : Nat) (kl : List Nat) (x : Int32) (Q : Option Value → kS → Prop) (h : mI σ n b R S C kl) (hU : ¬ isN x n → Q (some (.int (-1))) σ) (hS : isN x n → σ 232 52 ≠ 0 → Q (some (.int (-3))) σ) (hF : isN x n → σ 232 52 = 0 → kl.length = 20 → Q (some (.int (-4))) σ) (hO : ∀ t, t < n → x = nI t → σ 232 52 = 0 → kl.length ≠ 20 → (tgd (σ 233) (σ 234) (σ 235) t = false ∨ t ∈ kl) → Q (some (.int (-5))) σ)
    (hN : ∀ t, t < n → x = nI t → σ 232 52 = 0 → kl.length < 20 → tgd (σ 233) (σ 234) (σ 235) t = true → ¬ t ∈ kl → mI (va_up (va_up σ 254 (upd (σ 254) kl.length (nI t))) 232 (fgO (upd (σ 232) 26 (nI (kl.length + 1))))) n b R S C (kl ++ [t]) → Q (some (.int (nI (kl.length + 1)))) (va_up (va_up σ 254 (upd (σ 254) kl.length (nI t))) 232 (fgO (upd (σ 232) 26 (nI (kl.length + 1)))))) : kXM kT L xs (d + 2) 167 [.ref 232, .int x] σ Q := by
  have h0 := h
  obtain ⟨h1, h2, h3, h4, h5, h6, h7⟩ := h
  have hn := h1.1
  have hk20 := h4.2.1
  unfold kXM
  repeat refine kX_one rfl ?_
  refine kX_cal (mr_isTerm L xs d σ n x h1.2.2.2.1 (by omega)) rfl (Or.inr rfl) rfl rfl rfl (fun r1 σ1 q1 => ?_)
  obtain ⟨rfl, rfl⟩ := q1
  repeat refine kX_one rfl ?_
  refine kX_if (fun q => ?_) (fun q => ?_)
  · obtain ⟨t, ht, rfl⟩ := isB_ne.mp (qne q)
    rcases h6 with h6 | ⟨h6, -⟩
    · iterate 2 (refine kX_one rfl ?_)
      refine kX_top (h6) ?_
      repeat refine kX_one rfl ?_
      refine kX_if (fun q => ?_) (fun q => ?_)
      · have hl20 : kl.length ≠ 20 := fun e => qne q (by rw [h4.1, e]; rfl)
        have hgr : σ 237 t = bI (tgd (σ 233) (σ 234) (σ 235) t) := h1.2.2.2.2.2.2.1 t (Or.inl ht)
        have hmem : (∃ i, i < kl.length ∧ kl[i]? = some t) ↔ t ∈ kl := by
          constructor
          · rintro ⟨i, i1, i2⟩
            exact List.mem_of_getElem? i2
          · intro q
            obtain ⟨i, i1, i2⟩ := List.mem_iff_getElem.mp q
            exact ⟨i, i1, by rw [List.getElem?_eq_getElem i1, i2]⟩
        have loop : ∀ k, k ≤ kl.length → kX kT L xs (d + 2) 167 49 [(3, .int (nI k)), (2, .int (isB (tgd (σ 233) (σ 234) (σ 235) t = false ∨ ∃ i, i < k ∧ kl[i]? = some t))), (0, .ref 232), (1, .int (nI t))] [] σ Q := by
          refine kX_while (fun k : Nat => [(3, .int (nI k)), (2, .int (isB (tgd (σ 233) (σ 234) (σ 235) t = false ∨ ∃ i, i < k ∧ kl[i]? = some t))), (0, .ref 232), (1, .int (nI t))]) (fun _ => σ) _ (fun k => kl.length - k) ?_
          intro k hk ih
          iterate 3 (refine kX_one rfl ?_)
          refine kX_top (h4.1) ?_
          repeat refine kX_one rfl ?_
          refine kX_if (fun q => ?_) (fun q => ?_)
          · have q := qge q k kl.length
            repeat refine kX_one rfl ?_
            refine kX_if (fun q2 => ?_) (fun q2 => ?_)
            · obtain rfl : k = kl.length := by omega
              have hno : ¬ t ∈ kl := fun z => isB_ne.mpr (Or.inr (hmem.mpr z)) (qeq q2)
              have hg : tgd (σ 233) (σ 234) (σ 235) t = true := by
                have : ¬ (tgd (σ 233) (σ 234) (σ 235) t = false ∨ ∃ i, i < kl.length ∧ kl[i]? = some t) := fun z => isB_ne.mpr z (qeq q2)
                cases hg : tgd (σ 233) (σ 234) (σ 235) t
                · exact absurd (Or.inl hg) this
                · rfl
              repeat refine kX_one rfl ?_
              refine kX_iastN rfl rfl (by decide) (kl.length) (h4.1) (by omega) ?_
              repeat refine kX_one rfl ?_
              have e1 : σ 232 26 + 1 = nI (kl.length + 1) := by rw [h4.1]; exact (nI_succ _).symm
              refine kX_st (va_up (va_up σ 254 (upd (σ 254) kl.length (nI t))) 232 (upd (σ 232) 26 (nI (kl.length + 1)))) ?_ ?_
              · rw [← e1]
                rfl
              refine kX_cal (mr_forget L xs d _) rfl (Or.inr rfl) rfl rfl rfl (fun r1 σ1 q1 => ?_)
              obtain ⟨rfl, rfl⟩ := q1
              repeat refine kX_one rfl ?_
              refine kX_st (va_up (va_up σ 254 (upd (σ 254) kl.length (nI t))) 232 (fgO (upd (σ 232) 26 (nI (kl.length + 1))))) ?_ ?_
              · funext c; unfold  va_up; repeat' split
                all_goals first | rfl | omega | (subst_vars; rfl) | (funext j; unfold upd; repeat' split; all_goals first | rfl | omega | (subst_vars; rfl))
              refine kX_ret (i := .ireturn) (len := 1) rfl (Or.inr rfl) rfl (hN t ht rfl h6 (by omega) hg hno ?_)
              refine ⟨h1, h2, h3, ⟨?_, ?_, lst_push h4.2.2.1 t, fun u hu => ?_⟩, h5, Or.inl h6, Or.inl rfl⟩
              · rw [List.length_append]; rfl
              · rw [List.length_append]; show _ + 1 ≤ 20; omega
              · rcases List.mem_append.mp hu with hu | hu
                · exact h4.2.2.2 u hu
                · rw [List.mem_singleton] at hu
                  subst hu
                  exact ⟨ht, hg⟩
            · have q2 := isB_ne.mp (qeqF q2)
              obtain rfl : k = kl.length := by omega
              repeat refine kX_one rfl ?_
              refine kX_ret (i := .ireturn) (len := 1) rfl (Or.inr rfl) rfl (hO t ht rfl h6 hl20 (q2.imp id (fun z => hmem.mp z)))
          · have q := qgeF q k kl.length
            have hgo : ∀ v : Int32, v = isB (tgd (σ 233) (σ 234) (σ 235) t = false ∨ ∃ i, i < k + 1 ∧ kl[i]? = some t) → kX kT L xs (d + 2) 167 76 [(3, .int (nI k)), (2, .int (isB (tgd (σ 233) (σ 234) (σ 235) t = false ∨ ∃ i, i < k ∧ kl[i]? = some t))), (0, .ref 232), (1, .int (nI t))] [.int v] σ Q := by
              intro v hv
              subst hv
              iterate 3 (refine kX_one rfl ?_)
              have := ih (k + 1) q (by omega)
              rw [← nI_1] at this
              exact kX_lv _ rfl rfl rfl this
            repeat refine kX_one rfl ?_
            refine kX_if (fun q2 => ?_) (fun q2 => ?_)
            · have q2 := isB_ne.mp (qne q2)
              iterate 2 (refine kX_one rfl ?_)
              exact hgo _ (isB_T (q2.elim Or.inl (fun ⟨i, hi, hi2⟩ => Or.inr ⟨i, by omega, hi2⟩))).symm
            · have q2 : ¬ (tgd (σ 233) (σ 234) (σ 235) t = false ∨ ∃ i, i < k ∧ kl[i]? = some t) := fun z => isB_ne.mpr z (qneF q2)
              repeat refine kX_one rfl ?_
              refine kX_ialdN rfl rfl (by decide) (k) (by first | rfl | decide) (by omega) ?_
              iterate 1 (refine kX_one rfl ?_)
              have hk2 : σ 254 k = nI kl[k] := h4.2.2.1 k q
              have hlt := (h4.2.2.2 kl[k] (List.getElem_mem q)).1
              repeat refine kX_one rfl ?_
              refine kX_if (fun q3 => ?_) (fun q3 => ?_)
              · have q3 : σ 254 k ≠ nI t := qne q3
                iterate 1 (refine kX_one rfl ?_)
                refine hgo _ (isB_F ?_).symm
                rintro (z | ⟨i, hi, hi2⟩)
                · exact q2 (Or.inl z)
                · by_cases e : i = k
                  · subst e
                    rw [List.getElem?_eq_getElem q] at hi2
                    rw [hk2, Option.some.inj hi2] at q3
                    exact q3 rfl
                  · exact q2 (Or.inr ⟨i, by omega, hi2⟩)
              · have q3 : σ 254 k = nI t := qneF q3
                iterate 2 (refine kX_one rfl ?_)
                refine hgo _ (isB_T (Or.inr ⟨k, by omega, ?_⟩)).symm
                rw [List.getElem?_eq_getElem q]
                exact congrArg some (nI_inj (hk2.symm.trans q3))
        have start := loop 0 (Nat.zero_le _)
        repeat refine kX_one rfl ?_
        refine kX_baldV rfl rfl (by decide) (t) (by first | rfl | decide) (by omega) (hgr) ?_
        cases hg : tgd (σ 233) (σ 234) (σ 235) t
        · rw [isB_T (Or.inl hg)] at start
          iterate 6 (refine kX_one rfl ?_)
          exact kX_lv _ rfl rfl rfl start
        · rw [isB_F (by
            rintro (z | ⟨i, z, -⟩)
            · rw [hg] at z; cases z
            · omega)] at start
          iterate 5 (refine kX_one rfl ?_)
          exact kX_lv _ rfl rfl rfl start
      · have hl20 : kl.length = 20 := by
          have := qneF q
          rw [h4.1] at this
          exact nI_inj this
        repeat refine kX_one rfl ?_
        refine kX_ret (i := .ireturn) (len := 1) rfl (Or.inr rfl) rfl (hF ⟨t, ht, rfl⟩ h6 hl20)
    · iterate 2 (refine kX_one rfl ?_)
      refine kX_top (h6) ?_
      repeat refine kX_one rfl ?_
      refine kX_ret (i := .ireturn) (len := 1) rfl (Or.inr rfl) rfl (hS ⟨t, ht, rfl⟩ (by rw [h6]; decide))
  · have q := qneF q
    repeat refine kX_one rfl ?_
    refine kX_ret (i := .ireturn) (len := 1) rfl (Or.inr rfl) rfl (hU (fun z => isB_ne.mpr z q))
set_option maxRecDepth 100000 in
set_option maxHeartbeats 4000000 in
theorem mf_isKnown (L : Nat) (xs : Nat → Int32) (d : Nat) (σ : kS) (k : Nat) (x : Int32) (hk : k ≤ 20) (h : σ 13 10 = nI k) : kXM kT L xs (d + 1) 12 [.ref 13, .int x] σ (fun r σ' => r = some (.int (isB (∃ i, i < k ∧ σ 19 i = x))) ∧ σ = σ') := by
  unfold kXM
  have loop : ∀ i : Nat, (i ≤ k ∧ ∀ j, j < i → σ 19 j ≠ x) → kX kT L xs (d + 1) 12 2 [(2, .int (nI i)), (0, .ref 13), (1, .int x)] [] σ (fun r σ' => r = some (.int (isB (∃ i, i < k ∧ σ 19 i = x))) ∧ σ = σ') := by
    refine kX_while (fun i : Nat => [(2, .int (nI i)), (0, .ref 13), (1, .int x)]) (fun _ => σ) _ (fun i => k - i) ?_
    rintro i ⟨hi, hno⟩ ih
    iterate 3 (refine kX_one rfl ?_)
    refine kX_top (h) ?_
    repeat refine kX_one rfl ?_
    refine kX_if (fun q => ?_) (fun q => ?_)
    · have q := qge q i k
      repeat refine kX_one rfl ?_
      refine kX_ret (i := .ireturn) (len := 1) rfl (Or.inr rfl) rfl (⟨rF (fun ⟨j, j1, j2⟩ => hno j (by omega) j2), rfl⟩)
    · have q := qgeF q i k
      iterate 3 (refine kX_one rfl ?_)
      refine kX_ialdN rfl rfl (by decide) (i) (by first | rfl | decide) (by omega) ?_
      iterate 1 (refine kX_one rfl ?_)
      repeat refine kX_one rfl ?_
      refine kX_if (fun q2 => ?_) (fun q2 => ?_)
      · have q2 : σ 19 i ≠ x := qne q2
        iterate 2 (refine kX_one rfl ?_)
        have := ih (i + 1) ⟨q, fun j hj => by
          by_cases e : j = i
          · subst e
            exact q2
          · exact hno j (by omega)⟩ (by omega)
        rw [← nI_1] at this
        exact kX_lv _ rfl rfl rfl this
      · have q2 : σ 19 i = x := qneF q2
        repeat refine kX_one rfl ?_
        refine kX_ret (i := .ireturn) (len := 1) rfl (Or.inr rfl) rfl (⟨rT ⟨i, q, q2⟩, rfl⟩)
  iterate 2 (refine kX_one rfl ?_)
  exact kX_lv _ rfl rfl rfl (loop 0 ⟨Nat.zero_le _, fun j hj => absurd hj (Nat.not_lt_zero j)⟩)
/-- one more is known on both sides -/
theorem bJ_kn {σ ρ τ ω : kS} {n b R S C m t : Nat} {kl : List Nat} (h : aJ σ n b R S C kl m) (hr : σ 232 52 = 0) (hf : ρ 196 5 = 0 ∧ ρ 195 9 = -1 ∧ ρ 195 10 = 0 ∧ ρ 195 11 = 0 ∧ ∀ c, c ≠ 195 → c ≠ 196 → c ≠ 201 → ρ c = σ c) (hτ : τ = va_up (va_up ρ 19 (upd (ρ 19) kl.length (nI t))) 13 (upd (ρ 13) 10 (nI (kl.length + 1)))) (hω : ω = va_up (va_up τ 254 (upd (τ 254) kl.length (nI t))) 232 (fgO (upd (τ 232) 26 (nI (kl.length + 1))))) (hJ : cJ τ n R S C) (hI : mI ω n b R S C (kl ++ [t])) : bJ m ω := by
  obtain ⟨i, j, tt, r, s, c, k, u, f, mm⟩ := h
  obtain ⟨f1, f2, f3, f4, f5⟩ := hf
  have lo : ∀ c, c < 232 → ω c = τ c := fun c hc => by rw [hω, up_ne (by omega), up_ne (by omega)]
  have eτ : ∀ c, c ≠ 13 → c ≠ 19 → τ c = ρ c := fun c c1 c2 => by rw [hτ, up_ne c1, up_ne c2]
  have el : ∀ c, c < 232 → c ≠ 13 → c ≠ 19 → c ≠ 195 → c ≠ 196 → c ≠ 201 → ω c = σ c := fun c c0 c1 c2 c3 c4 c5 => (lo c c0).trans ((eτ c c1 c2).trans (f5 c c3 c4 c5))
  have er : ∀ c, 232 < c → c ≠ 254 → ω c = σ c := fun c c1 c2 => by
    rw [hω, up_ne (by omega), up_ne c2, eτ c (by omega) (by omega), f5 c (by omega) (by omega) (by omega)]
  have hr' : ∀ l : List Nat, l.all (fun c => decide (232 < c ∧ c ≠ 254)) = true → eqC σ ω l := eqC_of (fun c q => er c q.1 q.2)
  have hl : ∀ c, c < 195 → c ≠ 13 → c ≠ 19 → ω c = σ c := fun c c0 c1 c2 => el c (by omega) c1 c2 (by omega) (by omega) (by omega)
  have e232 : τ 232 = σ 232 := (eτ 232 (by decide) (by decide)).trans (f5 232 (by decide) (by decide) (by decide))
  have e13 : ω 13 10 = nI (kl.length + 1) := by
    rw [lo 13 (by decide), hτ]
    rfl
  have ekn : ω 19 = upd (σ 19) kl.length (nI t) := by
    rw [lo _ (by decide), hτ, up_ne (by decide), up_eq, f5 _ (by decide) (by decide) (by decide)]
  have ef : ω 195 = ρ 195 ∧ ω 196 = ρ 196 := ⟨(lo _ (by decide)).trans (eτ _ (by decide) (by decide)), (lo _ (by decide)).trans (eτ _ (by decide) (by decide))⟩
  have eru : ω 232 52 = 0 := by
    rw [hω]
    show fgO (upd (τ 232) 26 (nI (kl.length + 1))) 52 = 0
    rw [e232]
    exact hr
  refine ⟨n, b, R, S, C, kl ++ [t], hI, cJ_low lo hJ, aT_c (fun c c1 c2 => hl c (by omega) (by omega) (by omega)) (hr' _ (by decide)) tt, aR_c i.1 i.2.1 (fun c c1 c2 => hl c (by omega) (by omega) (by omega)) (hr' _ (by decide)) r, aS_c i.1.1 i.2.1 i.2.2.1 (hl _ (by decide) (by decide) (by decide)) (hl _ (by decide) (by decide) (by decide)) (hl _ (by decide) (by decide) (by decide)) (hr' _ (by decide)) s, aC_c i.2.2.2.2.1 (fun c c1 c2 => hl c (by omega) (by omega) (by omega)) (hr' _ (by decide)) c, ⟨by rw [e13, List.length_append]; rfl, by rw [ekn]; exact lst_push k.2 t⟩, aU_none ?_ eru, aF_none (by rw [ef.2]; exact f1) (by rw [ef.1]; exact f3) (by rw [ef.1]; exact f4) (by rw [ef.1]; exact f2) (by rw [hω]; rfl) (by rw [hω]; rfl) (by rw [hω]; rfl) (by rw [hω]; rfl), ?_⟩
  · rw [hl 181 (by decide) (by decide) (by decide)]
    exact Classical.byContradiction (fun z => absurd hr (u.1.mp z))
  · obtain ⟨m1, m2, m3, a1, a2, a3, a4, a5, a6⟩ := mm
    exact ⟨m1, m2, m3, a1, a2, a3, kMs_eq (fun c c1 c2 => el c (by omega) (by omega) (by omega) (by omega) (by omega) (by omega)) a4, kMs_eq (fun c c1 c2 => el c (by omega) (by omega) (by omega) (by omega) (by omega) (by omega)) a5, kMs_eq (fun c c1 c2 => el c (by omega) (by omega) (by omega) (by omega) (by omega) (by omega)) a6⟩
set_option maxRecDepth 100000 in
set_option maxHeartbeats 4000000 in
theorem bo_know (L : Nat) (xs : Nat → Int32) (d d' m : Nat) (σ : kS) (x : Int32) (h : bJ m σ) : kXM kT L xs (d + 4) 117 [.ref 0, .int x] σ (fun r τ => ∃ z, r = some (.int z) ∧ kXM kT L xs (d' + 2) 167 [.ref 232, .int x] τ (fun r' ω => r' = some (.int z) ∧ bJ m ω)) := by
  have hb := h
  obtain ⟨n, b, R, S, C, kl, hA⟩ := h
  have hI := hA.1
  have h := hA.2.1
  have hT := h.1
  have hn := hT.1
  have hU := hA.2.2.2.2.2.2.2.1
  have hK := hA.2.2.2.2.2.2.1
  have hk := hI.2.2.2.1.2.1
  have hkn := hK.1
  unfold kXM
  iterate 3 (refine kX_one rfl ?_)
  refine kX_cal (mc_has L xs (d + 2) σ n x hn hT.2.1) rfl (Or.inr rfl) rfl rfl rfl (fun r1 σ1 q1 => ?_)
  obtain ⟨rfl, rfl⟩ := q1
  repeat refine kX_one rfl ?_
  refine kX_if (fun q => ?_) (fun q => ?_)
  · obtain ⟨t, ht, rfl⟩ := isB_ne.mp (qne q)
    have uni : ∀ t', t' < n → nI t = nI t' → t' = t := fun t' q q2 => (nI_inj q2).symm
    have hgd : σ 8 t = bI (tgd (σ 233) (σ 234) (σ 235) t) := by
      rw [(hA.2.2.1.1 t ht).2.2.2.2.1]
      exact hI.1.2.2.2.2.2.2.1 t (Or.inl ht)
    repeat refine kX_one rfl ?_
    refine kX_if (fun q2 => ?_) (fun q2 => ?_)
    · have hr : σ 232 52 = 0 := Classical.byContradiction (fun z => hU.1.mpr z (qeq q2))
      iterate 3 (refine kX_one rfl ?_)
      refine kX_top (hkn) ?_
      iterate 1 (refine kX_one rfl ?_)
      repeat refine kX_one rfl ?_
      refine kX_if (fun q3 => ?_) (fun q3 => ?_)
      · have q3 := qlt q3 kl.length 20
        iterate 4 (refine kX_one rfl ?_)
        refine kX_baldN rfl rfl (by decide) (t) (by first | rfl | decide) (by omega) ?_
        repeat refine kX_one rfl ?_
        refine kX_if (fun q4 => ?_) (fun q4 => ?_)
        · have q4 : tgd (σ 233) (σ 234) (σ 235) t = false := (bI_eq _).mp (hgd.symm.trans (qeq q4))
          repeat refine kX_one rfl ?_
          refine kX_ret (i := .ireturn) (len := 1) rfl (Or.inr rfl) rfl (⟨_, rfl, mg_know L xs d' σ n b R S C kl _ _ hI (fun z => absurd ⟨t, ht, rfl⟩ z) (fun _ z => absurd hr z) (fun _ _ z => by omega) (fun _ _ _ _ _ _ => ⟨rfl, hb⟩) (fun t' c1 c2 c3 c4 c5 => by rw [uni t' c1 c2, q4] at c5; cases c5)⟩)
        · have q4 : tgd (σ 233) (σ 234) (σ 235) t = true := (bI_ne _).mp (fun z => qeqF q4 (hgd.trans z))
          iterate 3 (refine kX_one rfl ?_)
          refine kX_cal (mf_isKnown L xs (d + 2) σ kl.length (nI t) hk hkn) rfl (Or.inr rfl) rfl rfl rfl (fun r1 σ1 q1 => ?_)
          obtain ⟨rfl, rfl⟩ := q1
          have hkm : (∃ i, i < kl.length ∧ σ 19 i = nI t) ↔ t ∈ kl := by
            constructor
            · rintro ⟨i, i1, i2⟩
              rw [hK.2 i i1] at i2
              have := (hI.2.2.2.1.2.2.2 kl[i] (List.getElem_mem i1)).1
              rw [← nI_inj i2]
              exact List.getElem_mem i1
            · intro q
              obtain ⟨i, i1, i2⟩ := List.mem_iff_getElem.mp q
              exact ⟨i, i1, by rw [hK.2 i i1, i2]⟩
          repeat refine kX_one rfl ?_
          refine kX_if (fun q5 => ?_) (fun q5 => ?_)
          · have hno : ¬ t ∈ kl := fun z => isB_ne.mpr (hkm.mpr z) (qeq q5)
            iterate 2 (refine kX_one rfl ?_)
            refine kX_cal (mf_forget L xs d σ) rfl (Or.inr rfl) rfl rfl rfl (fun r1 ρ q1 => ?_)
            obtain ⟨rfl, g1, g2, g4, g5, -, -, g3⟩ := q1
            have h2 := cJ_sr h g3 (cSr_0 g1 g2)
            have hkn2 : ρ 13 10 = nI kl.length := by
              rw [g3 13 (by decide) (by decide) (by decide)]
              exact hkn
            iterate 3 (refine kX_one rfl ?_)
            have hle : kXM kT L xs (d + 3) 13 [.ref 13, .int (nI t)] ρ (fun r σ' => r = some (.int (nI (kl.length + 1))) ∧ σ' = va_up (va_up ρ 19 (upd (ρ 19) kl.length (nI t))) 13 (upd (ρ 13) 10 (nI (kl.length + 1)))) := by
              unfold kXM
              iterate 2 (refine kX_one rfl ?_)
              refine kX_top (hkn2) ?_
              iterate 1 (refine kX_one rfl ?_)
              repeat refine kX_one rfl ?_
              refine kX_if (fun q5 => ?_) (fun q5 => ?_)
              · have q5 := qge q5 kl.length 20
                omega
              · iterate 4 (refine kX_one rfl ?_)
                refine kX_top (hkn2) ?_
                iterate 1 (refine kX_one rfl ?_)
                refine kX_iastN rfl rfl (by decide) (kl.length) (by first | rfl | decide) (by omega) ?_
                iterate 3 (refine kX_one rfl ?_)
                refine kX_top (hkn2) ?_
                iterate 3 (refine kX_one rfl ?_)
                refine kX_st (va_up (va_up ρ 19 (upd (ρ 19) kl.length (nI t))) 13 (upd (ρ 13) 10 (nI (kl.length + 1)))) (by rw [← nI_1]; rfl) ?_
                repeat refine kX_one rfl ?_
                refine kX_ret (i := .ireturn) (len := 1) rfl (Or.inr rfl) rfl (⟨rfl, rfl⟩)
            refine kX_cal hle rfl (Or.inr rfl) rfl rfl rfl (fun r1 τ q1 => ?_)
            obtain ⟨rfl, hτ⟩ := q1
            have hi : ∀ c, 232 ≤ c → τ c = σ c := fun c hc => by rw [hτ, up_ne (by omega), up_ne (by omega), g3 c (by omega) (by omega) (by omega)]
            have hJ2 : cJ τ n R S C := by
              rw [hτ]
              exact cJ_kn h2 (fun c c1 c2 => by rw [up_ne c1, up_ne c2]) (fun j hj => pk_un hj) ⟨kl.length + 1, q3, rfl⟩
            have eru : τ 232 52 = 0 := by rw [hi 232 (by decide)]; exact hr
            have ek : ∀ u, tgd (τ 233) (τ 234) (τ 235) u = tgd (σ 233) (σ 234) (σ 235) u := fun u => by rw [hi 233 (by decide), hi 234 (by decide), hi 235 (by decide)]
            refine kX_ret (i := .ireturn) (len := 1) rfl (Or.inr rfl) rfl (⟨_, rfl, mg_know L xs d' τ n b R S C kl _ _ (aJ_hi hA hi) (fun z => absurd ⟨t, ht, rfl⟩ z) (fun _ z => absurd eru z) (fun _ _ z => by omega) (fun t' c1 c2 c3 c4 c5 => ?_) (fun t' c1 c2 c3 c4 c5 c6 c7 => ?_)⟩)
            · rw [uni t' c1 c2, ek, q4] at c5
              rcases c5 with z | z
              · cases z
              · exact absurd z hno
            · obtain rfl := uni t' c1 c2
              exact ⟨rfl, bJ_kn hA hr ⟨g1, g2, g4, g5, g3⟩ hτ rfl hJ2 c7⟩
          · have hyes : t ∈ kl := hkm.mp (isB_ne.mp (qeqF q5))
            repeat refine kX_one rfl ?_
            refine kX_ret (i := .ireturn) (len := 1) rfl (Or.inr rfl) rfl (⟨_, rfl, mg_know L xs d' σ n b R S C kl _ _ hI (fun z => absurd ⟨t, ht, rfl⟩ z) (fun _ z => absurd hr z) (fun _ _ z => by omega) (fun _ _ _ _ _ _ => ⟨rfl, hb⟩) (fun t' c1 c2 c3 c4 c5 c6 => absurd hyes (by rw [← uni t' c1 c2]; exact c6))⟩)
      · have q3 := qltF q3 kl.length 20
        repeat refine kX_one rfl ?_
        refine kX_ret (i := .ireturn) (len := 1) rfl (Or.inr rfl) rfl (⟨_, rfl, mg_know L xs d' σ n b R S C kl _ _ hI (fun z => absurd ⟨t, ht, rfl⟩ z) (fun _ z => absurd hr z) (fun _ _ _ => ⟨rfl, hb⟩) (fun t' c1 c2 c3 c4 => by omega) (fun t' c1 c2 c3 c4 => by omega)⟩)
    · have hr : σ 232 52 ≠ 0 := hU.1.mp (qeqF q2)
      repeat refine kX_one rfl ?_
      refine kX_ret (i := .ireturn) (len := 1) rfl (Or.inr rfl) rfl (⟨_, rfl, mg_know L xs d' σ n b R S C kl _ _ hI (fun z => absurd ⟨t, ht, rfl⟩ z) (fun _ _ => ⟨rfl, hb⟩) (fun _ z => absurd z hr) (fun t' c1 c2 c3 => absurd c3 hr) (fun t' c1 c2 c3 => absurd c3 hr)⟩)
  · have q : ¬ isN x n := fun z => isB_ne.mpr z (qneF q)
    repeat refine kX_one rfl ?_
    refine kX_ret (i := .ireturn) (len := 1) rfl (Or.inr rfl) rfl (⟨_, rfl, mg_know L xs d' σ n b R S C kl _ _ hI (fun _ => ⟨rfl, hb⟩) (fun z => absurd z q) (fun z => absurd z q) (fun t' c1 c2 => absurd ⟨t', c1, c2⟩ q) (fun t' c1 c2 => absurd ⟨t', c1, c2⟩ q)⟩)
