/-! the law, call by call (written by wip/gen_law.py) -/
theorem kX_xald {T : List jC} {L : Nat} {xs : Nat → Int32} {d pc : Nat} {lv : jL} {σ : kS} {Q : Option Value → kS → Prop} {j : Int32} {v : Nat} {rest : List Value} (hi : jm_ins 0 pc = some (.iaload, 1)) (k : Nat) (hj : j = nI k) (hk : k < L) (hL : L ≤ 100000) (g : kX T L xs (d + 1) 0 (pc + 1) lv (.int (xs k) :: rest) σ Q) : kX T L xs (d + 1) 0 pc lv (.int j :: .retAddr v :: rest) σ Q := by
  subst hj
  have c1 : (nI k).toNatClampNeg = k := nI_clamp (by omega)
  exact kX_one (by unfold kone; rw [hi]; simp [jlen, kplain, jend, jcall, jA, kH, jinN hk hL, c1]) g
set_option maxRecDepth 100000 in
theorem lw_agent (L : Nat) (xs : Nat → Int32) (σ : kS) (k : Nat) (Q : Option Value → kS → Prop) (hL : L ≤ 2560) (hk : k + 5 ≤ L) (h : bI2 σ) (kk : ∀ τ, bI2 τ → kX kT L xs 201 0 1040 [(3, .int (nI k)), (2, .ref 232), (1, .ref 0), (0, .retAddr 0)] [] τ Q) : kX kT L xs 201 0 168 [(3, .int (nI k)), (2, .ref 232), (1, .ref 0), (0, .retAddr 0)] [] σ Q := by
  obtain ⟨R, ⟨n, S, C, hJ⟩, n2, b2, S2, C2, kl, hM⟩ := h
  have km : ∀ τ, (∃ n S C, cJ τ n R S C) → mI τ n2 b2 R S2 C2 kl → kX kT L xs 201 0 186 [(3, .int (nI k)), (2, .ref 232), (1, .ref 0), (0, .retAddr 0)] [] τ Q := by
    rintro τ ⟨n3, S3, C3, hJ3⟩ hM3
    iterate 1 (refine kX_one rfl ?_)
    iterate 4 (refine kX_one rfl ?_)
    refine kX_top (y := nI (k + 1)) (nI_add k 1) ?_
    refine kX_xald rfl (k + 1) rfl (by omega) (by omega) ?_
    have kb : ∀ b : Int32, b = 0 ∨ b = 1 → kX kT L xs 201 0 200 [(3, .int (nI k)), (2, .ref 232), (1, .ref 0), (0, .retAddr 0)] [.int b, .ref 232] τ Q := by
      intro b hb
      refine kX_cal (mp_agent L xs 196 τ n2 b2 R S2 C2 kl b hb hM3) rfl (Or.inr rfl) rfl rfl rfl (fun r1 ω q1 => ?_)
      obtain ⟨⟨z, rfl⟩, hB1, n4, b4, S4, C4, kl4, hM4⟩ := q1
      iterate 2 (refine kX_one rfl ?_)
      exact kX_lv _ rfl rfl rfl (kk ω ⟨R, ⟨n3, S3, C3, cJ_low hB1 hJ3⟩, n4, b4, S4, C4, kl4, hM4⟩)
    repeat refine kX_one rfl ?_
    refine kX_if (fun q => ?_) (fun q => ?_)
    · iterate 1 (refine kX_one rfl ?_)
      exact kX_lv _ rfl rfl rfl (kb _ (Or.inl rfl))
    · iterate 2 (refine kX_one rfl ?_)
      exact kX_lv _ rfl rfl rfl (kb _ (Or.inr rfl))
  iterate 1 (refine kX_one rfl ?_)
  iterate 4 (refine kX_one rfl ?_)
  refine kX_top (y := nI (k + 1)) (nI_add k 1) ?_
  refine kX_xald rfl (k + 1) rfl (by omega) (by omega) ?_
  have kb : ∀ b : Int32, b = 0 ∨ b = 1 → kX kT L xs 201 0 182 [(3, .int (nI k)), (2, .ref 232), (1, .ref 0), (0, .retAddr 0)] [.int b, .ref 0] σ Q := by
    intro b hb
    refine kX_cal (mk_agent L xs 195 σ n R S C b hb hJ) rfl (Or.inr rfl) rfl rfl rfl (fun r1 τ q1 => ?_)
    obtain ⟨⟨z, rfl⟩, hA1, hA2⟩ := q1
    iterate 1 (refine kX_one rfl ?_)
    exact kX_lv _ rfl rfl rfl (km τ hA2 (mI_hi hA1 hM))
  repeat refine kX_one rfl ?_
  refine kX_if (fun q => ?_) (fun q => ?_)
  · iterate 1 (refine kX_one rfl ?_)
    exact kX_lv _ rfl rfl rfl (kb _ (Or.inl rfl))
  · iterate 2 (refine kX_one rfl ?_)
    exact kX_lv _ rfl rfl rfl (kb _ (Or.inr rfl))
set_option maxRecDepth 100000 in
theorem lw_atom (L : Nat) (xs : Nat → Int32) (σ : kS) (k : Nat) (Q : Option Value → kS → Prop) (hL : L ≤ 2560) (hk : k + 5 ≤ L) (h : bI2 σ) (kk : ∀ τ, bI2 τ → kX kT L xs 201 0 1040 [(3, .int (nI k)), (2, .ref 232), (1, .ref 0), (0, .retAddr 0)] [] τ Q) : kX kT L xs 201 0 207 [(3, .int (nI k)), (2, .ref 232), (1, .ref 0), (0, .retAddr 0)] [] σ Q := by
  obtain ⟨R, ⟨n, S, C, hJ⟩, n2, b2, S2, C2, kl, hM⟩ := h
  have km : ∀ τ, (∃ n S C, cJ τ n R S C) → mI τ n2 b2 R S2 C2 kl → kX kT L xs 201 0 217 [(3, .int (nI k)), (2, .ref 232), (1, .ref 0), (0, .retAddr 0)] [] τ Q := by
    rintro τ ⟨n3, S3, C3, hJ3⟩ hM3
    iterate 1 (refine kX_one rfl ?_)
    iterate 4 (refine kX_one rfl ?_)
    refine kX_top (y := nI (k + 1)) (nI_add k 1) ?_
    refine kX_xald rfl (k + 1) rfl (by omega) (by omega) ?_
    refine kX_cal (mp_atom L xs 196 τ n2 b2 R S2 C2 kl (xs (k + 1)) hM3) rfl (Or.inr rfl) rfl rfl rfl (fun r1 ω q1 => ?_)
    obtain ⟨⟨z, rfl⟩, hB1, n4, b4, S4, C4, kl4, hM4⟩ := q1
    iterate 2 (refine kX_one rfl ?_)
    exact kX_lv _ rfl rfl rfl (kk ω ⟨R, ⟨n3, S3, C3, cJ_low hB1 hJ3⟩, n4, b4, S4, C4, kl4, hM4⟩)
  iterate 1 (refine kX_one rfl ?_)
  iterate 4 (refine kX_one rfl ?_)
  refine kX_top (y := nI (k + 1)) (nI_add k 1) ?_
  refine kX_xald rfl (k + 1) rfl (by omega) (by omega) ?_
  refine kX_cal (mk_atom L xs 195 σ n R S C (xs (k + 1)) hJ) rfl (Or.inr rfl) rfl rfl rfl (fun r1 τ q1 => ?_)
  obtain ⟨⟨z, rfl⟩, hA1, hA2⟩ := q1
  iterate 1 (refine kX_one rfl ?_)
  exact kX_lv _ rfl rfl rfl (km τ hA2 (mI_hi hA1 hM))
set_option maxRecDepth 100000 in
theorem lw_term (L : Nat) (xs : Nat → Int32) (σ : kS) (k : Nat) (Q : Option Value → kS → Prop) (hL : L ≤ 2560) (hk : k + 5 ≤ L) (h : bI2 σ) (kk : ∀ τ, bI2 τ → kX kT L xs 201 0 1040 [(3, .int (nI k)), (2, .ref 232), (1, .ref 0), (0, .retAddr 0)] [] τ Q) : kX kT L xs 201 0 230 [(3, .int (nI k)), (2, .ref 232), (1, .ref 0), (0, .retAddr 0)] [] σ Q := by
  obtain ⟨R, ⟨n, S, C, hJ⟩, n2, b2, S2, C2, kl, hM⟩ := h
  have km : ∀ τ, (∃ n S C, cJ τ n R S C) → mI τ n2 b2 R S2 C2 kl → kX kT L xs 201 0 250 [(3, .int (nI k)), (2, .ref 232), (1, .ref 0), (0, .retAddr 0)] [] τ Q := by
    rintro τ ⟨n3, S3, C3, hJ3⟩ hM3
    iterate 1 (refine kX_one rfl ?_)
    iterate 4 (refine kX_one rfl ?_)
    refine kX_top (y := nI (k + 1)) (nI_add k 1) ?_
    refine kX_xald rfl (k + 1) rfl (by omega) (by omega) ?_
    iterate 4 (refine kX_one rfl ?_)
    refine kX_top (y := nI (k + 2)) (nI_add k 2) ?_
    refine kX_xald rfl (k + 2) rfl (by omega) (by omega) ?_
    iterate 4 (refine kX_one rfl ?_)
    refine kX_top (y := nI (k + 3)) (nI_add k 3) ?_
    refine kX_xald rfl (k + 3) rfl (by omega) (by omega) ?_
    refine kX_cal (mp_term L xs 195 τ n2 b2 R S2 C2 kl (xs (k + 1)) (xs (k + 2)) (xs (k + 3)) hM3) rfl (Or.inr rfl) rfl rfl rfl (fun r1 ω q1 => ?_)
    obtain ⟨⟨z, rfl⟩, hB1, n4, b4, S4, C4, kl4, hM4⟩ := q1
    iterate 2 (refine kX_one rfl ?_)
    exact kX_lv _ rfl rfl rfl (kk ω ⟨R, ⟨n3, S3, C3, cJ_low hB1 hJ3⟩, n4, b4, S4, C4, kl4, hM4⟩)
  iterate 1 (refine kX_one rfl ?_)
  iterate 4 (refine kX_one rfl ?_)
  refine kX_top (y := nI (k + 1)) (nI_add k 1) ?_
  refine kX_xald rfl (k + 1) rfl (by omega) (by omega) ?_
  iterate 4 (refine kX_one rfl ?_)
  refine kX_top (y := nI (k + 2)) (nI_add k 2) ?_
  refine kX_xald rfl (k + 2) rfl (by omega) (by omega) ?_
  iterate 4 (refine kX_one rfl ?_)
  refine kX_top (y := nI (k + 3)) (nI_add k 3) ?_
  refine kX_xald rfl (k + 3) rfl (by omega) (by omega) ?_
  refine kX_cal (mk_term L xs 194 σ n R S C (xs (k + 1)) (xs (k + 2)) (xs (k + 3)) hJ) rfl (Or.inr rfl) rfl rfl rfl (fun r1 τ q1 => ?_)
  obtain ⟨⟨z, rfl⟩, hA1, hA2⟩ := q1
  iterate 1 (refine kX_one rfl ?_)
  exact kX_lv _ rfl rfl rfl (km τ hA2 (mI_hi hA1 hM))
set_option maxRecDepth 100000 in
theorem lw_of (L : Nat) (xs : Nat → Int32) (σ : kS) (k : Nat) (Q : Option Value → kS → Prop) (hL : L ≤ 2560) (hk : k + 5 ≤ L) (h : bI2 σ) (kk : ∀ τ, bI2 τ → kX kT L xs 201 0 1040 [(3, .int (nI k)), (2, .ref 232), (1, .ref 0), (0, .retAddr 0)] [] τ Q) : kX kT L xs 201 0 273 [(3, .int (nI k)), (2, .ref 232), (1, .ref 0), (0, .retAddr 0)] [] σ Q := by
  obtain ⟨R, ⟨n, S, C, hJ⟩, n2, b2, S2, C2, kl, hM⟩ := h
  have km : ∀ τ, (∃ n S C, cJ τ n R S C) → mI τ n2 b2 R S2 C2 kl → kX kT L xs 201 0 293 [(3, .int (nI k)), (2, .ref 232), (1, .ref 0), (0, .retAddr 0)] [] τ Q := by
    rintro τ ⟨n3, S3, C3, hJ3⟩ hM3
    iterate 1 (refine kX_one rfl ?_)
    iterate 4 (refine kX_one rfl ?_)
    refine kX_top (y := nI (k + 1)) (nI_add k 1) ?_
    refine kX_xald rfl (k + 1) rfl (by omega) (by omega) ?_
    iterate 4 (refine kX_one rfl ?_)
    refine kX_top (y := nI (k + 2)) (nI_add k 2) ?_
    refine kX_xald rfl (k + 2) rfl (by omega) (by omega) ?_
    iterate 4 (refine kX_one rfl ?_)
    refine kX_top (y := nI (k + 3)) (nI_add k 3) ?_
    refine kX_xald rfl (k + 3) rfl (by omega) (by omega) ?_
    refine kX_cal (mp_of L xs 195 τ n2 b2 R S2 C2 kl (xs (k + 1)) (xs (k + 2)) (xs (k + 3)) hM3) rfl (Or.inr rfl) rfl rfl rfl (fun r1 ω q1 => ?_)
    obtain ⟨⟨z, rfl⟩, hB1, n4, b4, S4, C4, kl4, hM4⟩ := q1
    iterate 2 (refine kX_one rfl ?_)
    exact kX_lv _ rfl rfl rfl (kk ω ⟨R, ⟨n3, S3, C3, cJ_low hB1 hJ3⟩, n4, b4, S4, C4, kl4, hM4⟩)
  iterate 1 (refine kX_one rfl ?_)
  iterate 4 (refine kX_one rfl ?_)
  refine kX_top (y := nI (k + 1)) (nI_add k 1) ?_
  refine kX_xald rfl (k + 1) rfl (by omega) (by omega) ?_
  iterate 4 (refine kX_one rfl ?_)
  refine kX_top (y := nI (k + 2)) (nI_add k 2) ?_
  refine kX_xald rfl (k + 2) rfl (by omega) (by omega) ?_
  iterate 4 (refine kX_one rfl ?_)
  refine kX_top (y := nI (k + 3)) (nI_add k 3) ?_
  refine kX_xald rfl (k + 3) rfl (by omega) (by omega) ?_
  refine kX_cal (mk_of L xs 194 σ n R S C (xs (k + 1)) (xs (k + 2)) (xs (k + 3)) hJ) rfl (Or.inr rfl) rfl rfl rfl (fun r1 τ q1 => ?_)
  obtain ⟨⟨z, rfl⟩, hA1, hA2⟩ := q1
  iterate 1 (refine kX_one rfl ?_)
  exact kX_lv _ rfl rfl rfl (km τ hA2 (mI_hi hA1 hM))
set_option maxRecDepth 100000 in
theorem lw_about (L : Nat) (xs : Nat → Int32) (σ : kS) (k : Nat) (Q : Option Value → kS → Prop) (hL : L ≤ 2560) (hk : k + 5 ≤ L) (h : bI2 σ) (kk : ∀ τ, bI2 τ → kX kT L xs 201 0 1040 [(3, .int (nI k)), (2, .ref 232), (1, .ref 0), (0, .retAddr 0)] [] τ Q) : kX kT L xs 201 0 316 [(3, .int (nI k)), (2, .ref 232), (1, .ref 0), (0, .retAddr 0)] [] σ Q := by
  obtain ⟨R, ⟨n, S, C, hJ⟩, n2, b2, S2, C2, kl, hM⟩ := h
  have km : ∀ τ, (∃ n S C, cJ τ n R S C) → mI τ n2 b2 R S2 C2 kl → kX kT L xs 201 0 331 [(3, .int (nI k)), (2, .ref 232), (1, .ref 0), (0, .retAddr 0)] [] τ Q := by
    rintro τ ⟨n3, S3, C3, hJ3⟩ hM3
    iterate 1 (refine kX_one rfl ?_)
    iterate 4 (refine kX_one rfl ?_)
    refine kX_top (y := nI (k + 1)) (nI_add k 1) ?_
    refine kX_xald rfl (k + 1) rfl (by omega) (by omega) ?_
    iterate 4 (refine kX_one rfl ?_)
    refine kX_top (y := nI (k + 2)) (nI_add k 2) ?_
    refine kX_xald rfl (k + 2) rfl (by omega) (by omega) ?_
    refine kX_cal (mp_about L xs 198 τ n2 b2 R S2 C2 kl (xs (k + 1)) (xs (k + 2)) hM3) rfl (Or.inr rfl) rfl rfl rfl (fun r1 ω q1 => ?_)
    obtain ⟨⟨z, rfl⟩, hB1, n4, b4, S4, C4, kl4, hM4⟩ := q1
    iterate 2 (refine kX_one rfl ?_)
    exact kX_lv _ rfl rfl rfl (kk ω ⟨R, ⟨n3, S3, C3, cJ_low hB1 hJ3⟩, n4, b4, S4, C4, kl4, hM4⟩)
  iterate 1 (refine kX_one rfl ?_)
  iterate 4 (refine kX_one rfl ?_)
  refine kX_top (y := nI (k + 1)) (nI_add k 1) ?_
  refine kX_xald rfl (k + 1) rfl (by omega) (by omega) ?_
  iterate 4 (refine kX_one rfl ?_)
  refine kX_top (y := nI (k + 2)) (nI_add k 2) ?_
  refine kX_xald rfl (k + 2) rfl (by omega) (by omega) ?_
  refine kX_cal (mk_about L xs 198 σ n R S C (xs (k + 1)) (xs (k + 2)) hJ) rfl (Or.inr rfl) rfl rfl rfl (fun r1 τ q1 => ?_)
  obtain ⟨⟨z, rfl⟩, hA1, hA2⟩ := q1
  iterate 1 (refine kX_one rfl ?_)
  exact kX_lv _ rfl rfl rfl (km τ hA2 (mI_hi hA1 hM))
set_option maxRecDepth 100000 in
theorem lw_role (L : Nat) (xs : Nat → Int32) (σ : kS) (k : Nat) (Q : Option Value → kS → Prop) (hL : L ≤ 2560) (hk : k + 5 ≤ L) (h : bI2 σ) (kk : ∀ τ, bI2 τ → kX kT L xs 201 0 1040 [(3, .int (nI k)), (2, .ref 232), (1, .ref 0), (0, .retAddr 0)] [] τ Q) : kX kT L xs 201 0 349 [(3, .int (nI k)), (2, .ref 232), (1, .ref 0), (0, .retAddr 0)] [] σ Q := by
  obtain ⟨R, ⟨n, S, C, hJ⟩, n2, b2, S2, C2, kl, hM⟩ := h
  iterate 1 (refine kX_one rfl ?_)
  refine kX_cal (mk_role L xs 197 σ n R S C hJ) rfl (Or.inr rfl) rfl rfl rfl (fun r1 τ q1 => ?_)
  rcases q1 with ⟨hR, rfl, rfl⟩ | ⟨hR, rfl, hA1, n3, S3, C3, hJ3⟩
  · iterate 1 (refine kX_one rfl ?_)
    refine kX_cal (mp_role L xs 199 σ n2 b2 R S2 C2 kl hM) rfl (Or.inr rfl) rfl rfl rfl (fun r1 ω q1 => ?_)
    rcases q1 with ⟨-, rfl, rfl⟩ | ⟨hR2, -, -⟩
    · iterate 1 (refine kX_one rfl ?_)
      exact id (kk σ ⟨R, ⟨n, S, C, hJ⟩, n2, b2, S2, C2, kl, hM⟩)
    · omega
  · have hM3 := mI_hi hA1 hM
    iterate 1 (refine kX_one rfl ?_)
    refine kX_cal (mp_role L xs 199 τ n2 b2 R S2 C2 kl hM3) rfl (Or.inr rfl) rfl rfl rfl (fun r1 ω q1 => ?_)
    rcases q1 with ⟨hR2, -, -⟩ | ⟨-, rfl, hB1, n4, b4, S4, C4, kl4, hM4⟩
    · omega
    · repeat refine kX_one rfl ?_
      refine kX_ifT (decide_eq_true rfl) ?_
      exact kk ω ⟨R + 1, ⟨n3, S3, C3, cJ_low hB1 hJ3⟩, n4, b4, S4, C4, kl4, hM4⟩
set_option maxRecDepth 100000 in
theorem lw_variable (L : Nat) (xs : Nat → Int32) (σ : kS) (k : Nat) (Q : Option Value → kS → Prop) (hL : L ≤ 2560) (hk : k + 5 ≤ L) (h : bI2 σ) (kk : ∀ τ, bI2 τ → kX kT L xs 201 0 1040 [(3, .int (nI k)), (2, .ref 232), (1, .ref 0), (0, .retAddr 0)] [] τ Q) : kX kT L xs 201 0 362 [(3, .int (nI k)), (2, .ref 232), (1, .ref 0), (0, .retAddr 0)] [] σ Q := by
  obtain ⟨R, ⟨n, S, C, hJ⟩, n2, b2, S2, C2, kl, hM⟩ := h
  have km : ∀ τ, (∃ n S C, cJ τ n R S C) → mI τ n2 b2 R S2 C2 kl → kX kT L xs 201 0 382 [(3, .int (nI k)), (2, .ref 232), (1, .ref 0), (0, .retAddr 0)] [] τ Q := by
    rintro τ ⟨n3, S3, C3, hJ3⟩ hM3
    iterate 1 (refine kX_one rfl ?_)
    iterate 4 (refine kX_one rfl ?_)
    refine kX_top (y := nI (k + 1)) (nI_add k 1) ?_
    refine kX_xald rfl (k + 1) rfl (by omega) (by omega) ?_
    iterate 4 (refine kX_one rfl ?_)
    refine kX_top (y := nI (k + 2)) (nI_add k 2) ?_
    refine kX_xald rfl (k + 2) rfl (by omega) (by omega) ?_
    iterate 4 (refine kX_one rfl ?_)
    refine kX_top (y := nI (k + 3)) (nI_add k 3) ?_
    refine kX_xald rfl (k + 3) rfl (by omega) (by omega) ?_
    refine kX_cal (mp_variable L xs 195 τ n2 b2 R S2 C2 kl (xs (k + 1)) (xs (k + 2)) (xs (k + 3)) hM3) rfl (Or.inr rfl) rfl rfl rfl (fun r1 ω q1 => ?_)
    obtain ⟨⟨z, rfl⟩, hB1, n4, b4, S4, C4, kl4, hM4⟩ := q1
    iterate 2 (refine kX_one rfl ?_)
    exact kX_lv _ rfl rfl rfl (kk ω ⟨R, ⟨n3, S3, C3, cJ_low hB1 hJ3⟩, n4, b4, S4, C4, kl4, hM4⟩)
  iterate 1 (refine kX_one rfl ?_)
  iterate 4 (refine kX_one rfl ?_)
  refine kX_top (y := nI (k + 1)) (nI_add k 1) ?_
  refine kX_xald rfl (k + 1) rfl (by omega) (by omega) ?_
  iterate 4 (refine kX_one rfl ?_)
  refine kX_top (y := nI (k + 2)) (nI_add k 2) ?_
  refine kX_xald rfl (k + 2) rfl (by omega) (by omega) ?_
  iterate 4 (refine kX_one rfl ?_)
  refine kX_top (y := nI (k + 3)) (nI_add k 3) ?_
  refine kX_xald rfl (k + 3) rfl (by omega) (by omega) ?_
  refine kX_cal (mk_variable L xs 195 σ n R S C (xs (k + 1)) (xs (k + 2)) (xs (k + 3)) hJ) rfl (Or.inr rfl) rfl rfl rfl (fun r1 τ q1 => ?_)
  obtain ⟨⟨z, rfl⟩, hA1, hA2⟩ := q1
  iterate 1 (refine kX_one rfl ?_)
  exact kX_lv _ rfl rfl rfl (km τ hA2 (mI_hi hA1 hM))
set_option maxRecDepth 100000 in
theorem lw_event (L : Nat) (xs : Nat → Int32) (σ : kS) (k : Nat) (Q : Option Value → kS → Prop) (hL : L ≤ 2560) (hk : k + 5 ≤ L) (h : bI2 σ) (kk : ∀ τ, bI2 τ → kX kT L xs 201 0 1040 [(3, .int (nI k)), (2, .ref 232), (1, .ref 0), (0, .retAddr 0)] [] τ Q) : kX kT L xs 201 0 405 [(3, .int (nI k)), (2, .ref 232), (1, .ref 0), (0, .retAddr 0)] [] σ Q := by
  obtain ⟨R, ⟨n, S, C, hJ⟩, n2, b2, S2, C2, kl, hM⟩ := h
  have km : ∀ τ, (∃ n S C, cJ τ n R S C) → mI τ n2 b2 R S2 C2 kl → kX kT L xs 201 0 433 [(3, .int (nI k)), (2, .ref 232), (1, .ref 0), (0, .retAddr 0)] [] τ Q := by
    rintro τ ⟨n3, S3, C3, hJ3⟩ hM3
    iterate 1 (refine kX_one rfl ?_)
    iterate 4 (refine kX_one rfl ?_)
    refine kX_top (y := nI (k + 1)) (nI_add k 1) ?_
    refine kX_xald rfl (k + 1) rfl (by omega) (by omega) ?_
    iterate 4 (refine kX_one rfl ?_)
    refine kX_top (y := nI (k + 2)) (nI_add k 2) ?_
    refine kX_xald rfl (k + 2) rfl (by omega) (by omega) ?_
    have kb : ∀ b : Int32, b = 0 ∨ b = 1 → kX kT L xs 201 0 452 [(3, .int (nI k)), (2, .ref 232), (1, .ref 0), (0, .retAddr 0)] [.int b, .int (xs (k + 1)), .ref 232] τ Q := by
      intro b hb
      iterate 4 (refine kX_one rfl ?_)
      refine kX_top (y := nI (k + 3)) (nI_add k 3) ?_
      refine kX_xald rfl (k + 3) rfl (by omega) (by omega) ?_
      refine kX_cal (mp_event L xs 197 τ n2 b2 R S2 C2 kl (xs (k + 1)) b (xs (k + 3)) hb hM3) rfl (Or.inr rfl) rfl rfl rfl (fun r1 ω q1 => ?_)
      obtain ⟨⟨z, rfl⟩, hB1, n4, b4, S4, C4, kl4, hM4⟩ := q1
      iterate 2 (refine kX_one rfl ?_)
      exact kX_lv _ rfl rfl rfl (kk ω ⟨R, ⟨n3, S3, C3, cJ_low hB1 hJ3⟩, n4, b4, S4, C4, kl4, hM4⟩)
    repeat refine kX_one rfl ?_
    refine kX_if (fun q => ?_) (fun q => ?_)
    · iterate 1 (refine kX_one rfl ?_)
      exact kX_lv _ rfl rfl rfl (kb _ (Or.inl rfl))
    · iterate 2 (refine kX_one rfl ?_)
      exact kX_lv _ rfl rfl rfl (kb _ (Or.inr rfl))
  iterate 1 (refine kX_one rfl ?_)
  iterate 4 (refine kX_one rfl ?_)
  refine kX_top (y := nI (k + 1)) (nI_add k 1) ?_
  refine kX_xald rfl (k + 1) rfl (by omega) (by omega) ?_
  iterate 4 (refine kX_one rfl ?_)
  refine kX_top (y := nI (k + 2)) (nI_add k 2) ?_
  refine kX_xald rfl (k + 2) rfl (by omega) (by omega) ?_
  have kb : ∀ b : Int32, b = 0 ∨ b = 1 → kX kT L xs 201 0 424 [(3, .int (nI k)), (2, .ref 232), (1, .ref 0), (0, .retAddr 0)] [.int b, .int (xs (k + 1)), .ref 0] σ Q := by
    intro b hb
    iterate 4 (refine kX_one rfl ?_)
    refine kX_top (y := nI (k + 3)) (nI_add k 3) ?_
    refine kX_xald rfl (k + 3) rfl (by omega) (by omega) ?_
    refine kX_cal (mk_event L xs 194 σ n R S C (xs (k + 1)) b (xs (k + 3)) hb hJ) rfl (Or.inr rfl) rfl rfl rfl (fun r1 τ q1 => ?_)
    obtain ⟨⟨z, rfl⟩, hA1, hA2⟩ := q1
    iterate 1 (refine kX_one rfl ?_)
    exact kX_lv _ rfl rfl rfl (km τ hA2 (mI_hi hA1 hM))
  repeat refine kX_one rfl ?_
  refine kX_if (fun q => ?_) (fun q => ?_)
  · iterate 1 (refine kX_one rfl ?_)
    exact kX_lv _ rfl rfl rfl (kb _ (Or.inl rfl))
  · iterate 2 (refine kX_one rfl ?_)
    exact kX_lv _ rfl rfl rfl (kb _ (Or.inr rfl))
set_option maxRecDepth 100000 in
theorem lw_know (L : Nat) (xs : Nat → Int32) (σ : kS) (k : Nat) (Q : Option Value → kS → Prop) (hL : L ≤ 2560) (hk : k + 5 ≤ L) (h : bI2 σ) (kk : ∀ τ, bI2 τ → kX kT L xs 201 0 1040 [(3, .int (nI k)), (2, .ref 232), (1, .ref 0), (0, .retAddr 0)] [] τ Q) : kX kT L xs 201 0 464 [(3, .int (nI k)), (2, .ref 232), (1, .ref 0), (0, .retAddr 0)] [] σ Q := by
  obtain ⟨R, ⟨n, S, C, hJ⟩, n2, b2, S2, C2, kl, hM⟩ := h
  have km : ∀ τ, (∃ n S C, cJ τ n R S C) → mI τ n2 b2 R S2 C2 kl → kX kT L xs 201 0 474 [(3, .int (nI k)), (2, .ref 232), (1, .ref 0), (0, .retAddr 0)] [] τ Q := by
    rintro τ ⟨n3, S3, C3, hJ3⟩ hM3
    iterate 1 (refine kX_one rfl ?_)
    iterate 4 (refine kX_one rfl ?_)
    refine kX_top (y := nI (k + 1)) (nI_add k 1) ?_
    refine kX_xald rfl (k + 1) rfl (by omega) (by omega) ?_
    refine kX_cal (mp_know L xs 198 τ n2 b2 R S2 C2 kl (xs (k + 1)) hM3) rfl (Or.inr rfl) rfl rfl rfl (fun r1 ω q1 => ?_)
    obtain ⟨⟨z, rfl⟩, hB1, n4, b4, S4, C4, kl4, hM4⟩ := q1
    iterate 2 (refine kX_one rfl ?_)
    exact kX_lv _ rfl rfl rfl (kk ω ⟨R, ⟨n3, S3, C3, cJ_low hB1 hJ3⟩, n4, b4, S4, C4, kl4, hM4⟩)
  iterate 1 (refine kX_one rfl ?_)
  iterate 4 (refine kX_one rfl ?_)
  refine kX_top (y := nI (k + 1)) (nI_add k 1) ?_
  refine kX_xald rfl (k + 1) rfl (by omega) (by omega) ?_
  refine kX_cal (mk_know L xs 196 σ n R S C (xs (k + 1)) hJ) rfl (Or.inr rfl) rfl rfl rfl (fun r1 τ q1 => ?_)
  obtain ⟨⟨z, rfl⟩, hA1, hA2⟩ := q1
  iterate 1 (refine kX_one rfl ?_)
  exact kX_lv _ rfl rfl rfl (km τ hA2 (mI_hi hA1 hM))
set_option maxRecDepth 100000 in
theorem lw_session (L : Nat) (xs : Nat → Int32) (σ : kS) (k : Nat) (Q : Option Value → kS → Prop) (hL : L ≤ 2560) (hk : k + 5 ≤ L) (h : bI2 σ) (kk : ∀ τ, bI2 τ → kX kT L xs 201 0 1040 [(3, .int (nI k)), (2, .ref 232), (1, .ref 0), (0, .retAddr 0)] [] τ Q) : kX kT L xs 201 0 487 [(3, .int (nI k)), (2, .ref 232), (1, .ref 0), (0, .retAddr 0)] [] σ Q := by
  obtain ⟨R, ⟨n, S, C, hJ⟩, n2, b2, S2, C2, kl, hM⟩ := h
  have km : ∀ τ, (∃ n S C, cJ τ n R S C) → mI τ n2 b2 R S2 C2 kl → kX kT L xs 201 0 512 [(3, .int (nI k)), (2, .ref 232), (1, .ref 0), (0, .retAddr 0)] [] τ Q := by
    rintro τ ⟨n3, S3, C3, hJ3⟩ hM3
    iterate 1 (refine kX_one rfl ?_)
    iterate 4 (refine kX_one rfl ?_)
    refine kX_top (y := nI (k + 1)) (nI_add k 1) ?_
    refine kX_xald rfl (k + 1) rfl (by omega) (by omega) ?_
    iterate 4 (refine kX_one rfl ?_)
    refine kX_top (y := nI (k + 2)) (nI_add k 2) ?_
    refine kX_xald rfl (k + 2) rfl (by omega) (by omega) ?_
    iterate 4 (refine kX_one rfl ?_)
    refine kX_top (y := nI (k + 3)) (nI_add k 3) ?_
    refine kX_xald rfl (k + 3) rfl (by omega) (by omega) ?_
    iterate 4 (refine kX_one rfl ?_)
    refine kX_top (y := nI (k + 4)) (nI_add k 4) ?_
    refine kX_xald rfl (k + 4) rfl (by omega) (by omega) ?_
    refine kX_cal (mp_session L xs 196 τ n2 b2 R S2 C2 kl (xs (k + 1)) (xs (k + 2)) (xs (k + 3)) (xs (k + 4)) hM3) rfl (Or.inr rfl) rfl rfl rfl (fun r1 ω q1 => ?_)
    obtain ⟨⟨z, rfl⟩, hB1, n4, b4, S4, C4, kl4, hM4⟩ := q1
    iterate 2 (refine kX_one rfl ?_)
    exact kX_lv _ rfl rfl rfl (kk ω ⟨R, ⟨n3, S3, C3, cJ_low hB1 hJ3⟩, n4, b4, S4, C4, kl4, hM4⟩)
  iterate 1 (refine kX_one rfl ?_)
  iterate 4 (refine kX_one rfl ?_)
  refine kX_top (y := nI (k + 1)) (nI_add k 1) ?_
  refine kX_xald rfl (k + 1) rfl (by omega) (by omega) ?_
  iterate 4 (refine kX_one rfl ?_)
  refine kX_top (y := nI (k + 2)) (nI_add k 2) ?_
  refine kX_xald rfl (k + 2) rfl (by omega) (by omega) ?_
  iterate 4 (refine kX_one rfl ?_)
  refine kX_top (y := nI (k + 3)) (nI_add k 3) ?_
  refine kX_xald rfl (k + 3) rfl (by omega) (by omega) ?_
  iterate 4 (refine kX_one rfl ?_)
  refine kX_top (y := nI (k + 4)) (nI_add k 4) ?_
  refine kX_xald rfl (k + 4) rfl (by omega) (by omega) ?_
  refine kX_cal (mk_session L xs 194 σ n R S C (xs (k + 1)) (xs (k + 2)) (xs (k + 3)) (xs (k + 4)) hJ) rfl (Or.inr rfl) rfl rfl rfl (fun r1 τ q1 => ?_)
  obtain ⟨⟨z, rfl⟩, hA1, hA2⟩ := q1
  iterate 1 (refine kX_one rfl ?_)
  exact kX_lv _ rfl rfl rfl (km τ hA2 (mI_hi hA1 hM))
set_option maxRecDepth 100000 in
theorem lw_secret (L : Nat) (xs : Nat → Int32) (σ : kS) (k : Nat) (Q : Option Value → kS → Prop) (hL : L ≤ 2560) (hk : k + 5 ≤ L) (h : bI2 σ) (kk : ∀ τ, bI2 τ → kX kT L xs 201 0 1040 [(3, .int (nI k)), (2, .ref 232), (1, .ref 0), (0, .retAddr 0)] [] τ Q) : kX kT L xs 201 0 540 [(3, .int (nI k)), (2, .ref 232), (1, .ref 0), (0, .retAddr 0)] [] σ Q := by
  obtain ⟨R, ⟨n, S, C, hJ⟩, n2, b2, S2, C2, kl, hM⟩ := h
  have km : ∀ τ, (∃ n S C, cJ τ n R S C) → mI τ n2 b2 R S2 C2 kl → kX kT L xs 201 0 555 [(3, .int (nI k)), (2, .ref 232), (1, .ref 0), (0, .retAddr 0)] [] τ Q := by
    rintro τ ⟨n3, S3, C3, hJ3⟩ hM3
    iterate 1 (refine kX_one rfl ?_)
    iterate 4 (refine kX_one rfl ?_)
    refine kX_top (y := nI (k + 1)) (nI_add k 1) ?_
    refine kX_xald rfl (k + 1) rfl (by omega) (by omega) ?_
    iterate 4 (refine kX_one rfl ?_)
    refine kX_top (y := nI (k + 2)) (nI_add k 2) ?_
    refine kX_xald rfl (k + 2) rfl (by omega) (by omega) ?_
    refine kX_cal (mp_secret L xs 198 τ n2 b2 R S2 C2 kl (xs (k + 1)) (xs (k + 2)) hM3) rfl (Or.inr rfl) rfl rfl rfl (fun r1 ω q1 => ?_)
    obtain ⟨⟨z, rfl⟩, hB1, n4, b4, S4, C4, kl4, hM4⟩ := q1
    iterate 2 (refine kX_one rfl ?_)
    exact kX_lv _ rfl rfl rfl (kk ω ⟨R, ⟨n3, S3, C3, cJ_low hB1 hJ3⟩, n4, b4, S4, C4, kl4, hM4⟩)
  iterate 1 (refine kX_one rfl ?_)
  iterate 4 (refine kX_one rfl ?_)
  refine kX_top (y := nI (k + 1)) (nI_add k 1) ?_
  refine kX_xald rfl (k + 1) rfl (by omega) (by omega) ?_
  iterate 4 (refine kX_one rfl ?_)
  refine kX_top (y := nI (k + 2)) (nI_add k 2) ?_
  refine kX_xald rfl (k + 2) rfl (by omega) (by omega) ?_
  refine kX_cal (mk_secret L xs 197 σ n R S C (xs (k + 1)) (xs (k + 2)) hJ) rfl (Or.inr rfl) rfl rfl rfl (fun r1 τ q1 => ?_)
  obtain ⟨⟨z, rfl⟩, hA1, hA2⟩ := q1
  iterate 1 (refine kX_one rfl ?_)
  exact kX_lv _ rfl rfl rfl (km τ hA2 (mI_hi hA1 hM))
set_option maxRecDepth 100000 in
theorem lw_agree (L : Nat) (xs : Nat → Int32) (σ : kS) (k : Nat) (Q : Option Value → kS → Prop) (hL : L ≤ 2560) (hk : k + 5 ≤ L) (h : bI2 σ) (kk : ∀ τ, bI2 τ → kX kT L xs 201 0 1040 [(3, .int (nI k)), (2, .ref 232), (1, .ref 0), (0, .retAddr 0)] [] τ Q) : kX kT L xs 201 0 573 [(3, .int (nI k)), (2, .ref 232), (1, .ref 0), (0, .retAddr 0)] [] σ Q := by
  obtain ⟨R, ⟨n, S, C, hJ⟩, n2, b2, S2, C2, kl, hM⟩ := h
  have km : ∀ τ, (∃ n S C, cJ τ n R S C) → mI τ n2 b2 R S2 C2 kl → kX kT L xs 201 0 593 [(3, .int (nI k)), (2, .ref 232), (1, .ref 0), (0, .retAddr 0)] [] τ Q := by
    rintro τ ⟨n3, S3, C3, hJ3⟩ hM3
    iterate 1 (refine kX_one rfl ?_)
    iterate 4 (refine kX_one rfl ?_)
    refine kX_top (y := nI (k + 1)) (nI_add k 1) ?_
    refine kX_xald rfl (k + 1) rfl (by omega) (by omega) ?_
    iterate 4 (refine kX_one rfl ?_)
    refine kX_top (y := nI (k + 2)) (nI_add k 2) ?_
    refine kX_xald rfl (k + 2) rfl (by omega) (by omega) ?_
    iterate 4 (refine kX_one rfl ?_)
    refine kX_top (y := nI (k + 3)) (nI_add k 3) ?_
    refine kX_xald rfl (k + 3) rfl (by omega) (by omega) ?_
    refine kX_cal (mp_agree L xs 198 τ n2 b2 R S2 C2 kl (xs (k + 1)) (xs (k + 2)) (xs (k + 3)) hM3) rfl (Or.inr rfl) rfl rfl rfl (fun r1 ω q1 => ?_)
    obtain ⟨⟨z, rfl⟩, hB1, n4, b4, S4, C4, kl4, hM4⟩ := q1
    iterate 2 (refine kX_one rfl ?_)
    exact kX_lv _ rfl rfl rfl (kk ω ⟨R, ⟨n3, S3, C3, cJ_low hB1 hJ3⟩, n4, b4, S4, C4, kl4, hM4⟩)
  iterate 1 (refine kX_one rfl ?_)
  iterate 4 (refine kX_one rfl ?_)
  refine kX_top (y := nI (k + 1)) (nI_add k 1) ?_
  refine kX_xald rfl (k + 1) rfl (by omega) (by omega) ?_
  iterate 4 (refine kX_one rfl ?_)
  refine kX_top (y := nI (k + 2)) (nI_add k 2) ?_
  refine kX_xald rfl (k + 2) rfl (by omega) (by omega) ?_
  iterate 4 (refine kX_one rfl ?_)
  refine kX_top (y := nI (k + 3)) (nI_add k 3) ?_
  refine kX_xald rfl (k + 3) rfl (by omega) (by omega) ?_
  refine kX_cal (mk_agree L xs 197 σ n R S C (xs (k + 1)) (xs (k + 2)) (xs (k + 3)) hJ) rfl (Or.inr rfl) rfl rfl rfl (fun r1 τ q1 => ?_)
  obtain ⟨⟨z, rfl⟩, hA1, hA2⟩ := q1
  iterate 1 (refine kX_one rfl ?_)
  exact kX_lv _ rfl rfl rfl (km τ hA2 (mI_hi hA1 hM))
set_option maxRecDepth 100000 in
theorem lw_join (L : Nat) (xs : Nat → Int32) (σ : kS) (k : Nat) (Q : Option Value → kS → Prop) (hL : L ≤ 2560) (hk : k + 5 ≤ L) (h : bI2 σ) (kk : ∀ τ, bI2 τ → kX kT L xs 201 0 1040 [(3, .int (nI k)), (2, .ref 232), (1, .ref 0), (0, .retAddr 0)] [] τ Q) : kX kT L xs 201 0 616 [(3, .int (nI k)), (2, .ref 232), (1, .ref 0), (0, .retAddr 0)] [] σ Q := by
  obtain ⟨R, ⟨n, S, C, hJ⟩, n2, b2, S2, C2, kl, hM⟩ := h
  have km : ∀ τ, (∃ n S C, cJ τ n R S C) → mI τ n2 b2 R S2 C2 kl → kX kT L xs 201 0 636 [(3, .int (nI k)), (2, .ref 232), (1, .ref 0), (0, .retAddr 0)] [] τ Q := by
    rintro τ ⟨n3, S3, C3, hJ3⟩ hM3
    iterate 1 (refine kX_one rfl ?_)
    iterate 4 (refine kX_one rfl ?_)
    refine kX_top (y := nI (k + 1)) (nI_add k 1) ?_
    refine kX_xald rfl (k + 1) rfl (by omega) (by omega) ?_
    iterate 4 (refine kX_one rfl ?_)
    refine kX_top (y := nI (k + 2)) (nI_add k 2) ?_
    refine kX_xald rfl (k + 2) rfl (by omega) (by omega) ?_
    iterate 4 (refine kX_one rfl ?_)
    refine kX_top (y := nI (k + 3)) (nI_add k 3) ?_
    refine kX_xald rfl (k + 3) rfl (by omega) (by omega) ?_
    refine kX_cal (mp_join L xs 199 τ n2 b2 R S2 C2 kl (xs (k + 1)) (xs (k + 2)) (xs (k + 3)) hM3) rfl (Or.inr rfl) rfl rfl rfl (fun r1 ω q1 => ?_)
    obtain ⟨⟨z, rfl⟩, hB1, n4, b4, S4, C4, kl4, hM4⟩ := q1
    iterate 2 (refine kX_one rfl ?_)
    exact kX_lv _ rfl rfl rfl (kk ω ⟨R, ⟨n3, S3, C3, cJ_low hB1 hJ3⟩, n4, b4, S4, C4, kl4, hM4⟩)
  iterate 1 (refine kX_one rfl ?_)
  iterate 4 (refine kX_one rfl ?_)
  refine kX_top (y := nI (k + 1)) (nI_add k 1) ?_
  refine kX_xald rfl (k + 1) rfl (by omega) (by omega) ?_
  iterate 4 (refine kX_one rfl ?_)
  refine kX_top (y := nI (k + 2)) (nI_add k 2) ?_
  refine kX_xald rfl (k + 2) rfl (by omega) (by omega) ?_
  iterate 4 (refine kX_one rfl ?_)
  refine kX_top (y := nI (k + 3)) (nI_add k 3) ?_
  refine kX_xald rfl (k + 3) rfl (by omega) (by omega) ?_
  refine kX_cal (mk_join L xs 197 σ n R S C (xs (k + 1)) (xs (k + 2)) (xs (k + 3)) hJ) rfl (Or.inr rfl) rfl rfl rfl (fun r1 τ q1 => ?_)
  obtain ⟨⟨z, rfl⟩, hA1, hA2⟩ := q1
  iterate 1 (refine kX_one rfl ?_)
  exact kX_lv _ rfl rfl rfl (km τ hA2 (mI_hi hA1 hM))
set_option maxRecDepth 100000 in
theorem lw_begin (L : Nat) (xs : Nat → Int32) (σ : kS) (k : Nat) (Q : Option Value → kS → Prop) (hL : L ≤ 2560) (hk : k + 5 ≤ L) (h : bI2 σ) (kk : ∀ τ, bI2 τ → kX kT L xs 201 0 1040 [(3, .int (nI k)), (2, .ref 232), (1, .ref 0), (0, .retAddr 0)] [] τ Q) : kX kT L xs 201 0 659 [(3, .int (nI k)), (2, .ref 232), (1, .ref 0), (0, .retAddr 0)] [] σ Q := by
  obtain ⟨R, ⟨n, S, C, hJ⟩, n2, b2, S2, C2, kl, hM⟩ := h
  have km : ∀ τ, (∃ n S C, cJ τ n R S C) → mI τ n2 b2 R S2 C2 kl → kX kT L xs 201 0 664 [(3, .int (nI k)), (2, .ref 232), (1, .ref 0), (0, .retAddr 0)] [] τ Q := by
    rintro τ ⟨n3, S3, C3, hJ3⟩ hM3
    iterate 1 (refine kX_one rfl ?_)
    refine kX_cal (mr_begin L xs 198 τ n2 b2 R S2 C2 kl  hM3) rfl (Or.inr rfl) rfl rfl rfl (fun r1 ω q1 => ?_)
    obtain ⟨rfl, hB1, hM4, -⟩ := q1
    iterate 2 (refine kX_one rfl ?_)
    exact kX_lv _ rfl rfl rfl (kk ω ⟨R, ⟨n3, S3, C3, cJ_low hB1 hJ3⟩, n2, b2, S2, C2, kl, hM4⟩)
  iterate 1 (refine kX_one rfl ?_)
  refine kX_cal (mk_begin L xs 198 σ n R S C  hJ) rfl (Or.inr rfl) rfl rfl rfl (fun r1 τ q1 => ?_)
  obtain ⟨⟨z, rfl⟩, hA1, hA2⟩ := q1
  iterate 1 (refine kX_one rfl ?_)
  exact kX_lv _ rfl rfl rfl (km τ hA2 (mI_hi hA1 hM))
set_option maxRecDepth 100000 in
theorem lw_end (L : Nat) (xs : Nat → Int32) (σ : kS) (k : Nat) (Q : Option Value → kS → Prop) (hL : L ≤ 2560) (hk : k + 5 ≤ L) (h : bI2 σ) (kk : ∀ τ, bI2 τ → kX kT L xs 201 0 1040 [(3, .int (nI k)), (2, .ref 232), (1, .ref 0), (0, .retAddr 0)] [] τ Q) : kX kT L xs 201 0 672 [(3, .int (nI k)), (2, .ref 232), (1, .ref 0), (0, .retAddr 0)] [] σ Q := by
  obtain ⟨R, ⟨n, S, C, hJ⟩, n2, b2, S2, C2, kl, hM⟩ := h
  have km : ∀ τ, (∃ n S C, cJ τ n R S C) → mI τ n2 b2 R S2 C2 kl → kX kT L xs 201 0 677 [(3, .int (nI k)), (2, .ref 232), (1, .ref 0), (0, .retAddr 0)] [] τ Q := by
    rintro τ ⟨n3, S3, C3, hJ3⟩ hM3
    iterate 1 (refine kX_one rfl ?_)
    refine kX_cal (mr_end L xs 199 τ n2 b2 R S2 C2 kl  hM3) rfl (Or.inr rfl) rfl rfl rfl (fun r1 ω q1 => ?_)
    obtain ⟨⟨z, rfl⟩, hB1, n4, b4, S4, C4, kl4, hM4⟩ := q1
    iterate 2 (refine kX_one rfl ?_)
    exact kX_lv _ rfl rfl rfl (kk ω ⟨R, ⟨n3, S3, C3, cJ_low hB1 hJ3⟩, n4, b4, S4, C4, kl4, hM4⟩)
  iterate 1 (refine kX_one rfl ?_)
  refine kX_cal (mk_end L xs 199 σ n R S C  hJ) rfl (Or.inr rfl) rfl rfl rfl (fun r1 τ q1 => ?_)
  obtain ⟨⟨z, rfl⟩, hA1, hA2⟩ := q1
  iterate 1 (refine kX_one rfl ?_)
  exact kX_lv _ rfl rfl rfl (km τ hA2 (mI_hi hA1 hM))
set_option maxRecDepth 100000 in
theorem lw_send (L : Nat) (xs : Nat → Int32) (σ : kS) (k : Nat) (Q : Option Value → kS → Prop) (hL : L ≤ 2560) (hk : k + 5 ≤ L) (h : bI2 σ) (kk : ∀ τ, bI2 τ → kX kT L xs 201 0 1040 [(3, .int (nI k)), (2, .ref 232), (1, .ref 0), (0, .retAddr 0)] [] τ Q) : kX kT L xs 201 0 685 [(3, .int (nI k)), (2, .ref 232), (1, .ref 0), (0, .retAddr 0)] [] σ Q := by
  obtain ⟨R, ⟨n, S, C, hJ⟩, n2, b2, S2, C2, kl, hM⟩ := h
  have km : ∀ τ, (∃ n S C, cJ τ n R S C) → mI τ n2 b2 R S2 C2 kl → kX kT L xs 201 0 695 [(3, .int (nI k)), (2, .ref 232), (1, .ref 0), (0, .retAddr 0)] [] τ Q := by
    rintro τ ⟨n3, S3, C3, hJ3⟩ hM3
    iterate 1 (refine kX_one rfl ?_)
    iterate 4 (refine kX_one rfl ?_)
    refine kX_top (y := nI (k + 1)) (nI_add k 1) ?_
    refine kX_xald rfl (k + 1) rfl (by omega) (by omega) ?_
    refine kX_cal (mr_send L xs 192 τ n2 b2 R S2 C2 kl (xs (k + 1)) hM3) rfl (Or.inr rfl) rfl rfl rfl (fun r1 ω q1 => ?_)
    obtain ⟨⟨z, rfl⟩, hB1, n4, b4, S4, C4, kl4, hM4⟩ := q1
    iterate 2 (refine kX_one rfl ?_)
    exact kX_lv _ rfl rfl rfl (kk ω ⟨R, ⟨n3, S3, C3, cJ_low hB1 hJ3⟩, n4, b4, S4, C4, kl4, hM4⟩)
  iterate 1 (refine kX_one rfl ?_)
  iterate 4 (refine kX_one rfl ?_)
  refine kX_top (y := nI (k + 1)) (nI_add k 1) ?_
  refine kX_xald rfl (k + 1) rfl (by omega) (by omega) ?_
  refine kX_cal (mk_send L xs 144 σ n R S C (xs (k + 1)) hJ) rfl (Or.inr rfl) rfl rfl rfl (fun r1 τ q1 => ?_)
  obtain ⟨⟨z, rfl⟩, hA1, hA2⟩ := q1
  iterate 1 (refine kX_one rfl ?_)
  exact kX_lv _ rfl rfl rfl (km τ hA2 (mI_hi hA1 hM))
set_option maxRecDepth 100000 in
theorem lw_receive (L : Nat) (xs : Nat → Int32) (σ : kS) (k : Nat) (Q : Option Value → kS → Prop) (hL : L ≤ 2560) (hk : k + 5 ≤ L) (h : bI2 σ) (kk : ∀ τ, bI2 τ → kX kT L xs 201 0 1040 [(3, .int (nI k)), (2, .ref 232), (1, .ref 0), (0, .retAddr 0)] [] τ Q) : kX kT L xs 201 0 708 [(3, .int (nI k)), (2, .ref 232), (1, .ref 0), (0, .retAddr 0)] [] σ Q := by
  obtain ⟨R, ⟨n, S, C, hJ⟩, n2, b2, S2, C2, kl, hM⟩ := h
  have km : ∀ τ, (∃ n S C, cJ τ n R S C) → mI τ n2 b2 R S2 C2 kl → kX kT L xs 201 0 723 [(3, .int (nI k)), (2, .ref 232), (1, .ref 0), (0, .retAddr 0)] [] τ Q := by
    rintro τ ⟨n3, S3, C3, hJ3⟩ hM3
    iterate 1 (refine kX_one rfl ?_)
    iterate 4 (refine kX_one rfl ?_)
    refine kX_top (y := nI (k + 1)) (nI_add k 1) ?_
    refine kX_xald rfl (k + 1) rfl (by omega) (by omega) ?_
    iterate 4 (refine kX_one rfl ?_)
    refine kX_top (y := nI (k + 2)) (nI_add k 2) ?_
    refine kX_xald rfl (k + 2) rfl (by omega) (by omega) ?_
    refine kX_cal (mr_receive L xs 192 τ n2 b2 R S2 C2 kl (xs (k + 1)) (xs (k + 2)) hM3) rfl (Or.inr rfl) rfl rfl rfl (fun r1 ω q1 => ?_)
    obtain ⟨⟨z, rfl⟩, hB1, n4, b4, S4, C4, kl4, hM4⟩ := q1
    iterate 2 (refine kX_one rfl ?_)
    exact kX_lv _ rfl rfl rfl (kk ω ⟨R, ⟨n3, S3, C3, cJ_low hB1 hJ3⟩, n4, b4, S4, C4, kl4, hM4⟩)
  iterate 1 (refine kX_one rfl ?_)
  iterate 4 (refine kX_one rfl ?_)
  refine kX_top (y := nI (k + 1)) (nI_add k 1) ?_
  refine kX_xald rfl (k + 1) rfl (by omega) (by omega) ?_
  iterate 4 (refine kX_one rfl ?_)
  refine kX_top (y := nI (k + 2)) (nI_add k 2) ?_
  refine kX_xald rfl (k + 2) rfl (by omega) (by omega) ?_
  refine kX_cal (mk_receive L xs 144 σ n R S C (xs (k + 1)) (xs (k + 2)) hJ) rfl (Or.inr rfl) rfl rfl rfl (fun r1 τ q1 => ?_)
  obtain ⟨⟨z, rfl⟩, hA1, hA2⟩ := q1
  iterate 1 (refine kX_one rfl ?_)
  exact kX_lv _ rfl rfl rfl (km τ hA2 (mI_hi hA1 hM))
set_option maxRecDepth 100000 in
theorem lw_makes (L : Nat) (xs : Nat → Int32) (σ : kS) (k : Nat) (Q : Option Value → kS → Prop) (hL : L ≤ 2560) (hk : k + 5 ≤ L) (h : bI2 σ) (kk : ∀ τ, bI2 τ → kX kT L xs 201 0 1040 [(3, .int (nI k)), (2, .ref 232), (1, .ref 0), (0, .retAddr 0)] [] τ Q) : kX kT L xs 201 0 741 [(3, .int (nI k)), (2, .ref 232), (1, .ref 0), (0, .retAddr 0)] [] σ Q := by
  obtain ⟨R, ⟨n, S, C, hJ⟩, n2, b2, S2, C2, kl, hM⟩ := h
  have km : ∀ τ, (∃ n S C, cJ τ n R S C) → mI τ n2 b2 R S2 C2 kl → kX kT L xs 201 0 751 [(3, .int (nI k)), (2, .ref 232), (1, .ref 0), (0, .retAddr 0)] [] τ Q := by
    rintro τ ⟨n3, S3, C3, hJ3⟩ hM3
    iterate 1 (refine kX_one rfl ?_)
    iterate 4 (refine kX_one rfl ?_)
    refine kX_top (y := nI (k + 1)) (nI_add k 1) ?_
    refine kX_xald rfl (k + 1) rfl (by omega) (by omega) ?_
    refine kX_cal (mr_makes L xs 192 τ n2 b2 R S2 C2 kl (xs (k + 1)) hM3) rfl (Or.inr rfl) rfl rfl rfl (fun r1 ω q1 => ?_)
    obtain ⟨⟨z, rfl⟩, hB1, n4, b4, S4, C4, kl4, hM4⟩ := q1
    iterate 2 (refine kX_one rfl ?_)
    exact kX_lv _ rfl rfl rfl (kk ω ⟨R, ⟨n3, S3, C3, cJ_low hB1 hJ3⟩, n4, b4, S4, C4, kl4, hM4⟩)
  iterate 1 (refine kX_one rfl ?_)
  iterate 4 (refine kX_one rfl ?_)
  refine kX_top (y := nI (k + 1)) (nI_add k 1) ?_
  refine kX_xald rfl (k + 1) rfl (by omega) (by omega) ?_
  refine kX_cal (mk_makes L xs 144 σ n R S C (xs (k + 1)) hJ) rfl (Or.inr rfl) rfl rfl rfl (fun r1 τ q1 => ?_)
  obtain ⟨⟨z, rfl⟩, hA1, hA2⟩ := q1
  iterate 1 (refine kX_one rfl ?_)
  exact kX_lv _ rfl rfl rfl (km τ hA2 (mI_hi hA1 hM))
set_option maxRecDepth 100000 in
theorem lw_row (L : Nat) (xs : Nat → Int32) (σ : kS) (k : Nat) (Q : Option Value → kS → Prop) (hL : L ≤ 2560) (hk : k + 5 ≤ L) (h : bI2 σ) (kk : ∀ τ, bI2 τ → kX kT L xs 201 0 1040 [(3, .int (nI k)), (2, .ref 232), (1, .ref 0), (0, .retAddr 0)] [] τ Q) : kX kT L xs 201 0 764 [(3, .int (nI k)), (2, .ref 232), (1, .ref 0), (0, .retAddr 0)] [] σ Q := by
  obtain ⟨R, ⟨n, S, C, hJ⟩, n2, b2, S2, C2, kl, hM⟩ := h
  have km : ∀ τ, (∃ n S C, cJ τ n R S C) → mI τ n2 b2 R S2 C2 kl → kX kT L xs 201 0 779 [(3, .int (nI k)), (2, .ref 232), (1, .ref 0), (0, .retAddr 0)] [] τ Q := by
    rintro τ ⟨n3, S3, C3, hJ3⟩ hM3
    iterate 1 (refine kX_one rfl ?_)
    iterate 4 (refine kX_one rfl ?_)
    refine kX_top (y := nI (k + 1)) (nI_add k 1) ?_
    refine kX_xald rfl (k + 1) rfl (by omega) (by omega) ?_
    iterate 4 (refine kX_one rfl ?_)
    refine kX_top (y := nI (k + 2)) (nI_add k 2) ?_
    refine kX_xald rfl (k + 2) rfl (by omega) (by omega) ?_
    refine kX_cal (mp_row L xs 192 τ n2 b2 R S2 C2 kl (xs (k + 1)) (xs (k + 2)) hM3) rfl (Or.inr rfl) rfl rfl rfl (fun r1 ω q1 => ?_)
    obtain ⟨⟨z, rfl⟩, hB1, n4, b4, S4, C4, kl4, hM4⟩ := q1
    iterate 2 (refine kX_one rfl ?_)
    exact kX_lv _ rfl rfl rfl (kk ω ⟨R, ⟨n3, S3, C3, cJ_low hB1 hJ3⟩, n4, b4, S4, C4, kl4, hM4⟩)
  iterate 1 (refine kX_one rfl ?_)
  iterate 4 (refine kX_one rfl ?_)
  refine kX_top (y := nI (k + 1)) (nI_add k 1) ?_
  refine kX_xald rfl (k + 1) rfl (by omega) (by omega) ?_
  iterate 4 (refine kX_one rfl ?_)
  refine kX_top (y := nI (k + 2)) (nI_add k 2) ?_
  refine kX_xald rfl (k + 2) rfl (by omega) (by omega) ?_
  refine kX_cal (mk_row L xs 144 σ n R S C (xs (k + 1)) (xs (k + 2)) hJ) rfl (Or.inr rfl) rfl rfl rfl (fun r1 τ q1 => ?_)
  obtain ⟨⟨z, rfl⟩, hA1, hA2⟩ := q1
  iterate 1 (refine kX_one rfl ?_)
  exact kX_lv _ rfl rfl rfl (km τ hA2 (mI_hi hA1 hM))
set_option maxRecDepth 100000 in
theorem lw_stands (L : Nat) (xs : Nat → Int32) (σ : kS) (k : Nat) (Q : Option Value → kS → Prop) (hL : L ≤ 2560) (hk : k + 5 ≤ L) (h : bI2 σ) (kk : ∀ τ, bI2 τ → kX kT L xs 201 0 1040 [(3, .int (nI k)), (2, .ref 232), (1, .ref 0), (0, .retAddr 0)] [] τ Q) : kX kT L xs 201 0 797 [(3, .int (nI k)), (2, .ref 232), (1, .ref 0), (0, .retAddr 0)] [] σ Q := by
  obtain ⟨R, ⟨n, S, C, hJ⟩, n2, b2, S2, C2, kl, hM⟩ := h
  have km : ∀ τ, (∃ n S C, cJ τ n R S C) → mI τ n2 b2 R S2 C2 kl → kX kT L xs 201 0 812 [(3, .int (nI k)), (2, .ref 232), (1, .ref 0), (0, .retAddr 0)] [] τ Q := by
    rintro τ ⟨n3, S3, C3, hJ3⟩ hM3
    iterate 1 (refine kX_one rfl ?_)
    iterate 4 (refine kX_one rfl ?_)
    refine kX_top (y := nI (k + 1)) (nI_add k 1) ?_
    refine kX_xald rfl (k + 1) rfl (by omega) (by omega) ?_
    iterate 4 (refine kX_one rfl ?_)
    refine kX_top (y := nI (k + 2)) (nI_add k 2) ?_
    refine kX_xald rfl (k + 2) rfl (by omega) (by omega) ?_
    refine kX_cal (mr_stands L xs 198 τ n2 b2 R S2 C2 kl (xs (k + 1)) (xs (k + 2)) hM3) rfl (Or.inr rfl) rfl rfl rfl (fun r1 ω q1 => ?_)
    obtain ⟨⟨z, rfl⟩, hB1, n4, b4, S4, C4, kl4, hM4⟩ := q1
    iterate 2 (refine kX_one rfl ?_)
    exact kX_lv _ rfl rfl rfl (kk ω ⟨R, ⟨n3, S3, C3, cJ_low hB1 hJ3⟩, n4, b4, S4, C4, kl4, hM4⟩)
  iterate 1 (refine kX_one rfl ?_)
  iterate 4 (refine kX_one rfl ?_)
  refine kX_top (y := nI (k + 1)) (nI_add k 1) ?_
  refine kX_xald rfl (k + 1) rfl (by omega) (by omega) ?_
  iterate 4 (refine kX_one rfl ?_)
  refine kX_top (y := nI (k + 2)) (nI_add k 2) ?_
  refine kX_xald rfl (k + 2) rfl (by omega) (by omega) ?_
  refine kX_cal (mk_stands L xs 197 σ n R S C (xs (k + 1)) (xs (k + 2)) hJ) rfl (Or.inr rfl) rfl rfl rfl (fun r1 τ q1 => ?_)
  obtain ⟨⟨z, rfl⟩, hA1, hA2⟩ := q1
  iterate 1 (refine kX_one rfl ?_)
  exact kX_lv _ rfl rfl rfl (km τ hA2 (mI_hi hA1 hM))
set_option maxRecDepth 100000 in
theorem lw_done (L : Nat) (xs : Nat → Int32) (σ : kS) (k : Nat) (Q : Option Value → kS → Prop) (hL : L ≤ 2560) (hk : k + 5 ≤ L) (h : bI2 σ) (kk : ∀ τ, bI2 τ → kX kT L xs 201 0 1040 [(3, .int (nI k)), (2, .ref 232), (1, .ref 0), (0, .retAddr 0)] [] τ Q) : kX kT L xs 201 0 830 [(3, .int (nI k)), (2, .ref 232), (1, .ref 0), (0, .retAddr 0)] [] σ Q := by
  obtain ⟨R, ⟨n, S, C, hJ⟩, n2, b2, S2, C2, kl, hM⟩ := h
  have km : ∀ τ, (∃ n S C, cJ τ n R S C) → mI τ n2 b2 R S2 C2 kl → kX kT L xs 201 0 840 [(3, .int (nI k)), (2, .ref 232), (1, .ref 0), (0, .retAddr 0)] [] τ Q := by
    rintro τ ⟨n3, S3, C3, hJ3⟩ hM3
    iterate 1 (refine kX_one rfl ?_)
    iterate 4 (refine kX_one rfl ?_)
    refine kX_top (y := nI (k + 1)) (nI_add k 1) ?_
    refine kX_xald rfl (k + 1) rfl (by omega) (by omega) ?_
    refine kX_cal (mr_done L xs 198 τ n2 b2 R S2 C2 kl (xs (k + 1)) hM3) rfl (Or.inr rfl) rfl rfl rfl (fun r1 ω q1 => ?_)
    obtain ⟨⟨z, rfl⟩, hB1, n4, b4, S4, C4, kl4, hM4⟩ := q1
    iterate 2 (refine kX_one rfl ?_)
    exact kX_lv _ rfl rfl rfl (kk ω ⟨R, ⟨n3, S3, C3, cJ_low hB1 hJ3⟩, n4, b4, S4, C4, kl4, hM4⟩)
  iterate 1 (refine kX_one rfl ?_)
  iterate 4 (refine kX_one rfl ?_)
  refine kX_top (y := nI (k + 1)) (nI_add k 1) ?_
  refine kX_xald rfl (k + 1) rfl (by omega) (by omega) ?_
  refine kX_cal (mk_done L xs 198 σ n R S C (xs (k + 1)) hJ) rfl (Or.inr rfl) rfl rfl rfl (fun r1 τ q1 => ?_)
  obtain ⟨⟨z, rfl⟩, hA1, hA2⟩ := q1
  iterate 1 (refine kX_one rfl ?_)
  exact kX_lv _ rfl rfl rfl (km τ hA2 (mI_hi hA1 hM))
set_option maxRecDepth 100000 in
theorem lw_broken (L : Nat) (xs : Nat → Int32) (σ : kS) (k : Nat) (Q : Option Value → kS → Prop) (hL : L ≤ 2560) (hk : k + 5 ≤ L) (h : bI2 σ) (kk : ∀ τ, bI2 τ → kX kT L xs 201 0 1040 [(3, .int (nI k)), (2, .ref 232), (1, .ref 0), (0, .retAddr 0)] [] τ Q) : kX kT L xs 201 0 853 [(3, .int (nI k)), (2, .ref 232), (1, .ref 0), (0, .retAddr 0)] [] σ Q := by
  obtain ⟨R, ⟨n, S, C, hJ⟩, n2, b2, S2, C2, kl, hM⟩ := h
  have km : ∀ τ, (∃ n S C, cJ τ n R S C) → mI τ n2 b2 R S2 C2 kl → kX kT L xs 201 0 863 [(3, .int (nI k)), (2, .ref 232), (1, .ref 0), (0, .retAddr 0)] [] τ Q := by
    rintro τ ⟨n3, S3, C3, hJ3⟩ hM3
    iterate 1 (refine kX_one rfl ?_)
    iterate 4 (refine kX_one rfl ?_)
    refine kX_top (y := nI (k + 1)) (nI_add k 1) ?_
    refine kX_xald rfl (k + 1) rfl (by omega) (by omega) ?_
    refine kX_cal (mr_broken L xs 192 τ n2 b2 R S2 C2 kl (xs (k + 1)) hM3) rfl (Or.inr rfl) rfl rfl rfl (fun r1 ω q1 => ?_)
    obtain ⟨⟨z, rfl⟩, hB1, n4, b4, S4, C4, kl4, hM4⟩ := q1
    iterate 2 (refine kX_one rfl ?_)
    exact kX_lv _ rfl rfl rfl (kk ω ⟨R, ⟨n3, S3, C3, cJ_low hB1 hJ3⟩, n4, b4, S4, C4, kl4, hM4⟩)
  iterate 1 (refine kX_one rfl ?_)
  iterate 4 (refine kX_one rfl ?_)
  refine kX_top (y := nI (k + 1)) (nI_add k 1) ?_
  refine kX_xald rfl (k + 1) rfl (by omega) (by omega) ?_
  refine kX_cal (mk_broken L xs 144 σ n R S C (xs (k + 1)) hJ) rfl (Or.inr rfl) rfl rfl rfl (fun r1 τ q1 => ?_)
  obtain ⟨⟨z, rfl⟩, hA1, hA2⟩ := q1
  iterate 1 (refine kX_one rfl ?_)
  exact kX_lv _ rfl rfl rfl (km τ hA2 (mI_hi hA1 hM))
set_option maxRecDepth 100000 in
theorem lw_undo (L : Nat) (xs : Nat → Int32) (σ : kS) (k : Nat) (Q : Option Value → kS → Prop) (hL : L ≤ 2560) (hk : k + 5 ≤ L) (h : bI2 σ) (kk : ∀ τ, bI2 τ → kX kT L xs 201 0 1040 [(3, .int (nI k)), (2, .ref 232), (1, .ref 0), (0, .retAddr 0)] [] τ Q) : kX kT L xs 201 0 876 [(3, .int (nI k)), (2, .ref 232), (1, .ref 0), (0, .retAddr 0)] [] σ Q := by
  obtain ⟨R, ⟨n, S, C, hJ⟩, n2, b2, S2, C2, kl, hM⟩ := h
  have km : ∀ τ, (∃ n S C, cJ τ n R S C) → mI τ n2 b2 R S2 C2 kl → kX kT L xs 201 0 881 [(3, .int (nI k)), (2, .ref 232), (1, .ref 0), (0, .retAddr 0)] [] τ Q := by
    rintro τ ⟨n3, S3, C3, hJ3⟩ hM3
    iterate 1 (refine kX_one rfl ?_)
    refine kX_cal (mr_undo L xs 199 τ n2 b2 R S2 C2 kl  hM3) rfl (Or.inr rfl) rfl rfl rfl (fun r1 ω q1 => ?_)
    obtain ⟨⟨z, rfl⟩, hB1, n4, b4, S4, C4, kl4, hM4⟩ := q1
    iterate 2 (refine kX_one rfl ?_)
    exact kX_lv _ rfl rfl rfl (kk ω ⟨R, ⟨n3, S3, C3, cJ_low hB1 hJ3⟩, n4, b4, S4, C4, kl4, hM4⟩)
  iterate 1 (refine kX_one rfl ?_)
  refine kX_cal (mk_undo L xs 197 σ n R S C  hJ) rfl (Or.inr rfl) rfl rfl rfl (fun r1 τ q1 => ?_)
  obtain ⟨⟨z, rfl⟩, hA1, hA2⟩ := q1
  iterate 1 (refine kX_one rfl ?_)
  exact kX_lv _ rfl rfl rfl (km τ hA2 (mI_hi hA1 hM))
set_option maxRecDepth 100000 in
theorem lw_search (L : Nat) (xs : Nat → Int32) (σ : kS) (k : Nat) (Q : Option Value → kS → Prop) (hL : L ≤ 2560) (hk : k + 5 ≤ L) (h : bI2 σ) (kk : ∀ τ, bI2 τ → kX kT L xs 201 0 1040 [(3, .int (nI k)), (2, .ref 232), (1, .ref 0), (0, .retAddr 0)] [] τ Q) : kX kT L xs 201 0 889 [(3, .int (nI k)), (2, .ref 232), (1, .ref 0), (0, .retAddr 0)] [] σ Q := by
  obtain ⟨R, ⟨n, S, C, hJ⟩, n2, b2, S2, C2, kl, hM⟩ := h
  have km : ∀ τ, (∃ n S C, cJ τ n R S C) → mI τ n2 b2 R S2 C2 kl → kX kT L xs 201 0 894 [(3, .int (nI k)), (2, .ref 232), (1, .ref 0), (0, .retAddr 0)] [] τ Q := by
    rintro τ ⟨n3, S3, C3, hJ3⟩ hM3
    iterate 1 (refine kX_one rfl ?_)
    refine kX_cal (mp_search L xs 189 τ n2 b2 R S2 C2 kl  hM3) rfl (Or.inr rfl) rfl rfl rfl (fun r1 ω q1 => ?_)
    obtain ⟨⟨z, rfl⟩, hB1, n4, b4, S4, C4, kl4, hM4⟩ := q1
    iterate 2 (refine kX_one rfl ?_)
    exact kX_lv _ rfl rfl rfl (kk ω ⟨R, ⟨n3, S3, C3, cJ_low hB1 hJ3⟩, n4, b4, S4, C4, kl4, hM4⟩)
  iterate 1 (refine kX_one rfl ?_)
  refine kX_cal (mk_search L xs 143 σ n R S C  hJ) rfl (Or.inr rfl) rfl rfl rfl (fun r1 τ q1 => ?_)
  obtain ⟨⟨z, rfl⟩, hA1, hA2⟩ := q1
  iterate 1 (refine kX_one rfl ?_)
  exact kX_lv _ rfl rfl rfl (km τ hA2 (mI_hi hA1 hM))
set_option maxRecDepth 100000 in
theorem lw_found (L : Nat) (xs : Nat → Int32) (σ : kS) (k : Nat) (Q : Option Value → kS → Prop) (hL : L ≤ 2560) (hk : k + 5 ≤ L) (h : bI2 σ) (kk : ∀ τ, bI2 τ → kX kT L xs 201 0 1040 [(3, .int (nI k)), (2, .ref 232), (1, .ref 0), (0, .retAddr 0)] [] τ Q) : kX kT L xs 201 0 902 [(3, .int (nI k)), (2, .ref 232), (1, .ref 0), (0, .retAddr 0)] [] σ Q := by
  obtain ⟨R, ⟨n, S, C, hJ⟩, n2, b2, S2, C2, kl, hM⟩ := h
  have km : ∀ τ, (∃ n S C, cJ τ n R S C) → mI τ n2 b2 R S2 C2 kl → kX kT L xs 201 0 912 [(3, .int (nI k)), (2, .ref 232), (1, .ref 0), (0, .retAddr 0)] [] τ Q := by
    rintro τ ⟨n3, S3, C3, hJ3⟩ hM3
    iterate 1 (refine kX_one rfl ?_)
    iterate 4 (refine kX_one rfl ?_)
    refine kX_top (y := nI (k + 1)) (nI_add k 1) ?_
    refine kX_xald rfl (k + 1) rfl (by omega) (by omega) ?_
    refine kX_cal (mp_found L xs 199 τ n2 b2 R S2 C2 kl (xs (k + 1)) hM3) rfl (Or.inr rfl) rfl rfl rfl (fun r1 ω q1 => ?_)
    obtain ⟨⟨z, rfl⟩, hB1, n4, b4, S4, C4, kl4, hM4⟩ := q1
    iterate 2 (refine kX_one rfl ?_)
    exact kX_lv _ rfl rfl rfl (kk ω ⟨R, ⟨n3, S3, C3, cJ_low hB1 hJ3⟩, n4, b4, S4, C4, kl4, hM4⟩)
  iterate 1 (refine kX_one rfl ?_)
  iterate 4 (refine kX_one rfl ?_)
  refine kX_top (y := nI (k + 1)) (nI_add k 1) ?_
  refine kX_xald rfl (k + 1) rfl (by omega) (by omega) ?_
  refine kX_cal (mk_found L xs 198 σ n R S C (xs (k + 1)) hJ) rfl (Or.inr rfl) rfl rfl rfl (fun r1 τ q1 => ?_)
  obtain ⟨⟨z, rfl⟩, hA1, hA2⟩ := q1
  iterate 1 (refine kX_one rfl ?_)
  exact kX_lv _ rfl rfl rfl (km τ hA2 (mI_hi hA1 hM))
set_option maxRecDepth 100000 in
theorem lw_attack (L : Nat) (xs : Nat → Int32) (σ : kS) (k : Nat) (Q : Option Value → kS → Prop) (hL : L ≤ 2560) (hk : k + 5 ≤ L) (h : bI2 σ) (kk : ∀ τ, bI2 τ → kX kT L xs 201 0 1040 [(3, .int (nI k)), (2, .ref 232), (1, .ref 0), (0, .retAddr 0)] [] τ Q) : kX kT L xs 201 0 925 [(3, .int (nI k)), (2, .ref 232), (1, .ref 0), (0, .retAddr 0)] [] σ Q := by
  obtain ⟨R, ⟨n, S, C, hJ⟩, n2, b2, S2, C2, kl, hM⟩ := h
  have km : ∀ τ, (∃ n S C, cJ τ n R S C) → mI τ n2 b2 R S2 C2 kl → kX kT L xs 201 0 935 [(3, .int (nI k)), (2, .ref 232), (1, .ref 0), (0, .retAddr 0)] [] τ Q := by
    rintro τ ⟨n3, S3, C3, hJ3⟩ hM3
    iterate 1 (refine kX_one rfl ?_)
    iterate 4 (refine kX_one rfl ?_)
    refine kX_top (y := nI (k + 1)) (nI_add k 1) ?_
    refine kX_xald rfl (k + 1) rfl (by omega) (by omega) ?_
    refine kX_cal (mp_attack L xs 199 τ n2 b2 R S2 C2 kl (xs (k + 1)) hM3) rfl (Or.inr rfl) rfl rfl rfl (fun r1 ω q1 => ?_)
    obtain ⟨⟨z, rfl⟩, hB1, n4, b4, S4, C4, kl4, hM4⟩ := q1
    iterate 2 (refine kX_one rfl ?_)
    exact kX_lv _ rfl rfl rfl (kk ω ⟨R, ⟨n3, S3, C3, cJ_low hB1 hJ3⟩, n4, b4, S4, C4, kl4, hM4⟩)
  iterate 1 (refine kX_one rfl ?_)
  iterate 4 (refine kX_one rfl ?_)
  refine kX_top (y := nI (k + 1)) (nI_add k 1) ?_
  refine kX_xald rfl (k + 1) rfl (by omega) (by omega) ?_
  refine kX_cal (mk_attack L xs 198 σ n R S C (xs (k + 1)) hJ) rfl (Or.inr rfl) rfl rfl rfl (fun r1 τ q1 => ?_)
  obtain ⟨⟨z, rfl⟩, hA1, hA2⟩ := q1
  iterate 1 (refine kX_one rfl ?_)
  exact kX_lv _ rfl rfl rfl (km τ hA2 (mI_hi hA1 hM))
set_option maxRecDepth 100000 in
theorem lw_play (L : Nat) (xs : Nat → Int32) (σ : kS) (k : Nat) (Q : Option Value → kS → Prop) (hL : L ≤ 2560) (hk : k + 5 ≤ L) (h : bI2 σ) (kk : ∀ τ, bI2 τ → kX kT L xs 201 0 1040 [(3, .int (nI k)), (2, .ref 232), (1, .ref 0), (0, .retAddr 0)] [] τ Q) : kX kT L xs 201 0 948 [(3, .int (nI k)), (2, .ref 232), (1, .ref 0), (0, .retAddr 0)] [] σ Q := by
  obtain ⟨R, ⟨n, S, C, hJ⟩, n2, b2, S2, C2, kl, hM⟩ := h
  have km : ∀ τ, (∃ n S C, cJ τ n R S C) → mI τ n2 b2 R S2 C2 kl → kX kT L xs 201 0 958 [(3, .int (nI k)), (2, .ref 232), (1, .ref 0), (0, .retAddr 0)] [] τ Q := by
    rintro τ ⟨n3, S3, C3, hJ3⟩ hM3
    iterate 1 (refine kX_one rfl ?_)
    iterate 4 (refine kX_one rfl ?_)
    refine kX_top (y := nI (k + 1)) (nI_add k 1) ?_
    refine kX_xald rfl (k + 1) rfl (by omega) (by omega) ?_
    refine kX_cal (mp_play L xs 192 τ n2 b2 R S2 C2 kl (xs (k + 1)) hM3) rfl (Or.inr rfl) rfl rfl rfl (fun r1 ω q1 => ?_)
    obtain ⟨⟨z, rfl⟩, hB1, n4, b4, S4, C4, kl4, hM4⟩ := q1
    iterate 2 (refine kX_one rfl ?_)
    exact kX_lv _ rfl rfl rfl (kk ω ⟨R, ⟨n3, S3, C3, cJ_low hB1 hJ3⟩, n4, b4, S4, C4, kl4, hM4⟩)
  iterate 1 (refine kX_one rfl ?_)
  iterate 4 (refine kX_one rfl ?_)
  refine kX_top (y := nI (k + 1)) (nI_add k 1) ?_
  refine kX_xald rfl (k + 1) rfl (by omega) (by omega) ?_
  refine kX_cal (mk_play L xs 144 σ n R S C (xs (k + 1)) hJ) rfl (Or.inr rfl) rfl rfl rfl (fun r1 τ q1 => ?_)
  obtain ⟨⟨z, rfl⟩, hA1, hA2⟩ := q1
  iterate 1 (refine kX_one rfl ?_)
  exact kX_lv _ rfl rfl rfl (km τ hA2 (mI_hi hA1 hM))
set_option maxRecDepth 100000 in
theorem lw_told (L : Nat) (xs : Nat → Int32) (σ : kS) (k : Nat) (Q : Option Value → kS → Prop) (hL : L ≤ 2560) (hk : k + 5 ≤ L) (h : bI2 σ) (kk : ∀ τ, bI2 τ → kX kT L xs 201 0 1040 [(3, .int (nI k)), (2, .ref 232), (1, .ref 0), (0, .retAddr 0)] [] τ Q) : kX kT L xs 201 0 971 [(3, .int (nI k)), (2, .ref 232), (1, .ref 0), (0, .retAddr 0)] [] σ Q := by
  obtain ⟨R, ⟨n, S, C, hJ⟩, n2, b2, S2, C2, kl, hM⟩ := h
  have km : ∀ τ, (∃ n S C, cJ τ n R S C) → mI τ n2 b2 R S2 C2 kl → kX kT L xs 201 0 981 [(3, .int (nI k)), (2, .ref 232), (1, .ref 0), (0, .retAddr 0)] [] τ Q := by
    rintro τ ⟨n3, S3, C3, hJ3⟩ hM3
    iterate 1 (refine kX_one rfl ?_)
    iterate 4 (refine kX_one rfl ?_)
    refine kX_top (y := nI (k + 1)) (nI_add k 1) ?_
    refine kX_xald rfl (k + 1) rfl (by omega) (by omega) ?_
    refine kX_cal (mp_told L xs 199 τ n2 b2 R S2 C2 kl (xs (k + 1)) hM3) rfl (Or.inr rfl) rfl rfl rfl (fun r1 ω q1 => ?_)
    obtain ⟨⟨z, rfl⟩, hB1, n4, b4, S4, C4, kl4, hM4⟩ := q1
    iterate 2 (refine kX_one rfl ?_)
    exact kX_lv _ rfl rfl rfl (kk ω ⟨R, ⟨n3, S3, C3, cJ_low hB1 hJ3⟩, n4, b4, S4, C4, kl4, hM4⟩)
  iterate 1 (refine kX_one rfl ?_)
  iterate 4 (refine kX_one rfl ?_)
  refine kX_top (y := nI (k + 1)) (nI_add k 1) ?_
  refine kX_xald rfl (k + 1) rfl (by omega) (by omega) ?_
  refine kX_cal (mk_told L xs 199 σ n R S C (xs (k + 1)) hJ) rfl (Or.inr rfl) rfl rfl rfl (fun r1 τ q1 => ?_)
  obtain ⟨⟨z, rfl⟩, hA1, hA2⟩ := q1
  iterate 1 (refine kX_one rfl ?_)
  exact kX_lv _ rfl rfl rfl (km τ hA2 (mI_hi hA1 hM))
set_option maxRecDepth 100000 in
theorem lw_ofRole (L : Nat) (xs : Nat → Int32) (σ : kS) (k : Nat) (Q : Option Value → kS → Prop) (hL : L ≤ 2560) (hk : k + 5 ≤ L) (h : bI2 σ) (kk : ∀ τ, bI2 τ → kX kT L xs 201 0 1040 [(3, .int (nI k)), (2, .ref 232), (1, .ref 0), (0, .retAddr 0)] [] τ Q) : kX kT L xs 201 0 994 [(3, .int (nI k)), (2, .ref 232), (1, .ref 0), (0, .retAddr 0)] [] σ Q := by
  obtain ⟨R, ⟨n, S, C, hJ⟩, n2, b2, S2, C2, kl, hM⟩ := h
  have km : ∀ τ, (∃ n S C, cJ τ n R S C) → mI τ n2 b2 R S2 C2 kl → kX kT L xs 201 0 1009 [(3, .int (nI k)), (2, .ref 232), (1, .ref 0), (0, .retAddr 0)] [] τ Q := by
    rintro τ ⟨n3, S3, C3, hJ3⟩ hM3
    iterate 1 (refine kX_one rfl ?_)
    iterate 4 (refine kX_one rfl ?_)
    refine kX_top (y := nI (k + 1)) (nI_add k 1) ?_
    refine kX_xald rfl (k + 1) rfl (by omega) (by omega) ?_
    iterate 4 (refine kX_one rfl ?_)
    refine kX_top (y := nI (k + 2)) (nI_add k 2) ?_
    refine kX_xald rfl (k + 2) rfl (by omega) (by omega) ?_
    refine kX_cal (mp_ofRole L xs 198 τ n2 b2 R S2 C2 kl (xs (k + 1)) (xs (k + 2)) hM3) rfl (Or.inr rfl) rfl rfl rfl (fun r1 ω q1 => ?_)
    obtain ⟨⟨z, rfl⟩, hB1, n4, b4, S4, C4, kl4, hM4⟩ := q1
    iterate 2 (refine kX_one rfl ?_)
    exact kX_lv _ rfl rfl rfl (kk ω ⟨R, ⟨n3, S3, C3, cJ_low hB1 hJ3⟩, n4, b4, S4, C4, kl4, hM4⟩)
  iterate 1 (refine kX_one rfl ?_)
  iterate 4 (refine kX_one rfl ?_)
  refine kX_top (y := nI (k + 1)) (nI_add k 1) ?_
  refine kX_xald rfl (k + 1) rfl (by omega) (by omega) ?_
  iterate 4 (refine kX_one rfl ?_)
  refine kX_top (y := nI (k + 2)) (nI_add k 2) ?_
  refine kX_xald rfl (k + 2) rfl (by omega) (by omega) ?_
  refine kX_cal (mk_ofRole L xs 198 σ n R S C (xs (k + 1)) (xs (k + 2)) hJ) rfl (Or.inr rfl) rfl rfl rfl (fun r1 τ q1 => ?_)
  obtain ⟨⟨z, rfl⟩, hA1, hA2⟩ := q1
  iterate 1 (refine kX_one rfl ?_)
  exact kX_lv _ rfl rfl rfl (km τ hA2 (mI_hi hA1 hM))
set_option maxRecDepth 100000 in
theorem lw_clear (L : Nat) (xs : Nat → Int32) (σ : kS) (k : Nat) (Q : Option Value → kS → Prop) (hL : L ≤ 2560) (hk : k + 5 ≤ L) (h : bI2 σ) (kk : ∀ τ, bI2 τ → kX kT L xs 201 0 1040 [(3, .int (nI k)), (2, .ref 232), (1, .ref 0), (0, .retAddr 0)] [] τ Q) : kX kT L xs 201 0 1027 [(3, .int (nI k)), (2, .ref 232), (1, .ref 0), (0, .retAddr 0)] [] σ Q := by
  obtain ⟨R, ⟨n, S, C, hJ⟩, n2, b2, S2, C2, kl, hM⟩ := h
  have km : ∀ τ, (∃ n S C, cJ τ n 0 S C) → mI τ n2 b2 R S2 C2 kl → kX kT L xs 201 0 1032 [(3, .int (nI k)), (2, .ref 232), (1, .ref 0), (0, .retAddr 0)] [] τ Q := by
    rintro τ ⟨n3, S3, C3, hJ3⟩ hM3
    iterate 1 (refine kX_one rfl ?_)
    refine kX_cal (mp_clear L xs 198 τ n2 b2 R S2 C2 kl  hM3) rfl (Or.inr rfl) rfl rfl rfl (fun r1 ω q1 => ?_)
    obtain ⟨⟨z, rfl⟩, hB1, n4, b4, S4, C4, kl4, hM4⟩ := q1
    iterate 2 (refine kX_one rfl ?_)
    exact kX_lv _ rfl rfl rfl (kk ω ⟨0, ⟨n3, S3, C3, cJ_low hB1 hJ3⟩, n4, b4, S4, C4, kl4, hM4⟩)
  iterate 1 (refine kX_one rfl ?_)
  refine kX_cal (mk_clear L xs 196 σ n R S C  hJ) rfl (Or.inr rfl) rfl rfl rfl (fun r1 τ q1 => ?_)
  obtain ⟨⟨z, rfl⟩, hA1, hA2⟩ := q1
  iterate 1 (refine kX_one rfl ?_)
  exact kX_lv _ rfl rfl rfl (km τ hA2 (mI_hi hA1 hM))
