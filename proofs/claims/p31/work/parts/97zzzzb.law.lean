/-! the law, call by call (written by wip/gen_lawb.py) -/
theorem kX_xald {T : List jC} {L : Nat} {xs : Nat → Int32} {d pc : Nat} {lv : jL} {σ : kS} {Q : Option Value → kS → Prop} {j : Int32} {v : Nat} {rest : List Value} (hi : jm_ins 0 pc = some (.iaload, 1)) (k : Nat) (hj : j = nI k) (hk : k < L) (hL : L ≤ 100000) (g : kX T L xs (d + 1) 0 (pc + 1) lv (.int (xs k) :: rest) σ Q) : kX T L xs (d + 1) 0 pc lv (.int j :: .retAddr v :: rest) σ Q := by
  subst hj
  have c1 : (nI k).toNatClampNeg = k := nI_clamp (by omega)
  exact kX_one (by unfold kone; rw [hi]; simp [jlen, kplain, jend, jcall, jA, kH, jinN hk hL, c1]) g
set_option maxRecDepth 100000 in
theorem lw_agent (L : Nat) (xs : Nat → Int32) (σ : kS) (k m : Nat) (Q : Option Value → kS → Prop) (hL : L ≤ 2560) (hk : k + 5 ≤ L) (hm : m < 2147470000) (h : bJ m σ) (kk : ∀ τ, bJ (m + 2401) τ → kX kT L xs 201 0 1040 [(3, .int (nI k)), (2, .ref 232), (1, .ref 0), (0, .retAddr 0)] [] τ Q) : kX kT L xs 201 0 168 [(3, .int (nI k)), (2, .ref 232), (1, .ref 0), (0, .retAddr 0)] [] σ Q := by
  iterate 1 (refine kX_one rfl ?_)
  iterate 4 (refine kX_one rfl ?_)
  refine kX_top (y := nI (k + 1)) (nI_add k 1) ?_
  refine kX_xald rfl (k + 1) rfl (by omega) (by omega) ?_
  have kb : ∀ b : Int32, b = 0 ∨ b = 1 → ((jcmp .eq (xs (k + 1)) 0 = true → b = 0) ∧ (jcmp .eq (xs (k + 1)) 0 = false → b = 1)) → kX kT L xs 201 0 182 [(3, .int (nI k)), (2, .ref 232), (1, .ref 0), (0, .retAddr 0)] [.int b, .ref 0] σ Q := by
    intro b hb hq
    refine kX_cal (bo_agent L xs 195 196 m σ b hb h) rfl (Or.inr rfl) rfl rfl rfl (fun r1 τ q1 => ?_)
    obtain ⟨z, rfl, hM⟩ := q1
    iterate 1 (refine kX_one rfl ?_)
    iterate 1 (refine kX_one rfl ?_)
    iterate 4 (refine kX_one rfl ?_)
    refine kX_top (y := nI (k + 1)) (nI_add k 1) ?_
    refine kX_xald rfl (k + 1) rfl (by omega) (by omega) ?_
    have kb' : ∀ b' : Int32, b' = b → kX kT L xs 201 0 200 [(3, .int (nI k)), (2, .ref 232), (1, .ref 0), (0, .retAddr 0)] [.int b', .ref 232] τ Q := by
      rintro b' rfl
      refine kX_cal hM rfl (Or.inr rfl) rfl rfl rfl (fun r1 ω q1 => ?_)
      obtain ⟨rfl, hJ⟩ := q1
      iterate 2 (refine kX_one rfl ?_)
      exact kX_lv _ rfl rfl rfl (kk ω (bJ_up (by omega) hJ))
    repeat refine kX_one rfl ?_
    refine kX_if (fun q => ?_) (fun q => ?_)
    · iterate 1 (refine kX_one rfl ?_)
      exact kX_lv _ rfl rfl rfl (kb' _ (hq.1 q).symm)
    · iterate 2 (refine kX_one rfl ?_)
      exact kX_lv _ rfl rfl rfl (kb' _ (hq.2 q).symm)
  repeat refine kX_one rfl ?_
  refine kX_if (fun q => ?_) (fun q => ?_)
  · iterate 1 (refine kX_one rfl ?_)
    exact kX_lv _ rfl rfl rfl (kb _ (Or.inl rfl) ⟨fun _ => rfl, fun q2 => absurd (q.symm.trans q2) (by decide)⟩)
  · iterate 2 (refine kX_one rfl ?_)
    exact kX_lv _ rfl rfl rfl (kb _ (Or.inr rfl) ⟨fun q2 => absurd (q.symm.trans q2) (by decide), fun _ => rfl⟩)
set_option maxRecDepth 100000 in
theorem lw_atom (L : Nat) (xs : Nat → Int32) (σ : kS) (k m : Nat) (Q : Option Value → kS → Prop) (hL : L ≤ 2560) (hk : k + 5 ≤ L) (hm : m < 2147470000) (h : bJ m σ) (kk : ∀ τ, bJ (m + 2401) τ → kX kT L xs 201 0 1040 [(3, .int (nI k)), (2, .ref 232), (1, .ref 0), (0, .retAddr 0)] [] τ Q) : kX kT L xs 201 0 207 [(3, .int (nI k)), (2, .ref 232), (1, .ref 0), (0, .retAddr 0)] [] σ Q := by
  iterate 1 (refine kX_one rfl ?_)
  iterate 4 (refine kX_one rfl ?_)
  refine kX_top (y := nI (k + 1)) (nI_add k 1) ?_
  refine kX_xald rfl (k + 1) rfl (by omega) (by omega) ?_
  refine kX_cal (bo_atom L xs 195 196 m σ (xs (k + 1)) h) rfl (Or.inr rfl) rfl rfl rfl (fun r1 τ q1 => ?_)
  obtain ⟨z, rfl, hM⟩ := q1
  iterate 1 (refine kX_one rfl ?_)
  iterate 1 (refine kX_one rfl ?_)
  iterate 4 (refine kX_one rfl ?_)
  refine kX_top (y := nI (k + 1)) (nI_add k 1) ?_
  refine kX_xald rfl (k + 1) rfl (by omega) (by omega) ?_
  refine kX_cal hM rfl (Or.inr rfl) rfl rfl rfl (fun r1 ω q1 => ?_)
  obtain ⟨rfl, hJ⟩ := q1
  iterate 2 (refine kX_one rfl ?_)
  exact kX_lv _ rfl rfl rfl (kk ω (bJ_up (by omega) hJ))
set_option maxRecDepth 100000 in
theorem lw_term (L : Nat) (xs : Nat → Int32) (σ : kS) (k m : Nat) (Q : Option Value → kS → Prop) (hL : L ≤ 2560) (hk : k + 5 ≤ L) (hm : m < 2147470000) (h : bJ m σ) (kk : ∀ τ, bJ (m + 2401) τ → kX kT L xs 201 0 1040 [(3, .int (nI k)), (2, .ref 232), (1, .ref 0), (0, .retAddr 0)] [] τ Q) : kX kT L xs 201 0 230 [(3, .int (nI k)), (2, .ref 232), (1, .ref 0), (0, .retAddr 0)] [] σ Q := by
  iterate 1 (refine kX_one rfl ?_)
  iterate 4 (refine kX_one rfl ?_)
  refine kX_top (y := nI (k + 1)) (nI_add k 1) ?_
  refine kX_xald rfl (k + 1) rfl (by omega) (by omega) ?_
  iterate 4 (refine kX_one rfl ?_)
  refine kX_top (y := nI (k + 2)) (nI_add k 2) ?_
  refine kX_xald rfl (k + 2) rfl (by omega) (by omega) ?_
  iterate 4 (refine kX_one rfl ?_)
  refine kX_top (y := nI (k + 3)) (nI_add k 3) ?_
  refine kX_xald rfl (k + 3) rfl (by omega) (by omega) ?_
  refine kX_cal (bo_term L xs 194 195 m σ (xs (k + 1)) (xs (k + 2)) (xs (k + 3)) h) rfl (Or.inr rfl) rfl rfl rfl (fun r1 τ q1 => ?_)
  obtain ⟨z, rfl, hM⟩ := q1
  iterate 1 (refine kX_one rfl ?_)
  iterate 1 (refine kX_one rfl ?_)
  iterate 4 (refine kX_one rfl ?_)
  refine kX_top (y := nI (k + 1)) (nI_add k 1) ?_
  refine kX_xald rfl (k + 1) rfl (by omega) (by omega) ?_
  iterate 4 (refine kX_one rfl ?_)
  refine kX_top (y := nI (k + 2)) (nI_add k 2) ?_
  refine kX_xald rfl (k + 2) rfl (by omega) (by omega) ?_
  iterate 4 (refine kX_one rfl ?_)
  refine kX_top (y := nI (k + 3)) (nI_add k 3) ?_
  refine kX_xald rfl (k + 3) rfl (by omega) (by omega) ?_
  refine kX_cal hM rfl (Or.inr rfl) rfl rfl rfl (fun r1 ω q1 => ?_)
  obtain ⟨rfl, hJ⟩ := q1
  iterate 2 (refine kX_one rfl ?_)
  exact kX_lv _ rfl rfl rfl (kk ω (bJ_up (by omega) hJ))
set_option maxRecDepth 100000 in
theorem lw_of (L : Nat) (xs : Nat → Int32) (σ : kS) (k m : Nat) (Q : Option Value → kS → Prop) (hL : L ≤ 2560) (hk : k + 5 ≤ L) (hm : m < 2147470000) (h : bJ m σ) (kk : ∀ τ, bJ (m + 2401) τ → kX kT L xs 201 0 1040 [(3, .int (nI k)), (2, .ref 232), (1, .ref 0), (0, .retAddr 0)] [] τ Q) : kX kT L xs 201 0 273 [(3, .int (nI k)), (2, .ref 232), (1, .ref 0), (0, .retAddr 0)] [] σ Q := by
  iterate 1 (refine kX_one rfl ?_)
  iterate 4 (refine kX_one rfl ?_)
  refine kX_top (y := nI (k + 1)) (nI_add k 1) ?_
  refine kX_xald rfl (k + 1) rfl (by omega) (by omega) ?_
  iterate 4 (refine kX_one rfl ?_)
  refine kX_top (y := nI (k + 2)) (nI_add k 2) ?_
  refine kX_xald rfl (k + 2) rfl (by omega) (by omega) ?_
  iterate 4 (refine kX_one rfl ?_)
  refine kX_top (y := nI (k + 3)) (nI_add k 3) ?_
  refine kX_xald rfl (k + 3) rfl (by omega) (by omega) ?_
  refine kX_cal (bo_of L xs 194 195 m σ (xs (k + 1)) (xs (k + 2)) (xs (k + 3)) h) rfl (Or.inr rfl) rfl rfl rfl (fun r1 τ q1 => ?_)
  obtain ⟨z, rfl, hM⟩ := q1
  iterate 1 (refine kX_one rfl ?_)
  iterate 1 (refine kX_one rfl ?_)
  iterate 4 (refine kX_one rfl ?_)
  refine kX_top (y := nI (k + 1)) (nI_add k 1) ?_
  refine kX_xald rfl (k + 1) rfl (by omega) (by omega) ?_
  iterate 4 (refine kX_one rfl ?_)
  refine kX_top (y := nI (k + 2)) (nI_add k 2) ?_
  refine kX_xald rfl (k + 2) rfl (by omega) (by omega) ?_
  iterate 4 (refine kX_one rfl ?_)
  refine kX_top (y := nI (k + 3)) (nI_add k 3) ?_
  refine kX_xald rfl (k + 3) rfl (by omega) (by omega) ?_
  refine kX_cal hM rfl (Or.inr rfl) rfl rfl rfl (fun r1 ω q1 => ?_)
  obtain ⟨rfl, hJ⟩ := q1
  iterate 2 (refine kX_one rfl ?_)
  exact kX_lv _ rfl rfl rfl (kk ω (bJ_up (by omega) hJ))
set_option maxRecDepth 100000 in
theorem lw_about (L : Nat) (xs : Nat → Int32) (σ : kS) (k m : Nat) (Q : Option Value → kS → Prop) (hL : L ≤ 2560) (hk : k + 5 ≤ L) (hm : m < 2147470000) (h : bJ m σ) (kk : ∀ τ, bJ (m + 2401) τ → kX kT L xs 201 0 1040 [(3, .int (nI k)), (2, .ref 232), (1, .ref 0), (0, .retAddr 0)] [] τ Q) : kX kT L xs 201 0 316 [(3, .int (nI k)), (2, .ref 232), (1, .ref 0), (0, .retAddr 0)] [] σ Q := by
  iterate 1 (refine kX_one rfl ?_)
  iterate 4 (refine kX_one rfl ?_)
  refine kX_top (y := nI (k + 1)) (nI_add k 1) ?_
  refine kX_xald rfl (k + 1) rfl (by omega) (by omega) ?_
  iterate 4 (refine kX_one rfl ?_)
  refine kX_top (y := nI (k + 2)) (nI_add k 2) ?_
  refine kX_xald rfl (k + 2) rfl (by omega) (by omega) ?_
  refine kX_cal (bo_about L xs 198 198 m σ (xs (k + 1)) (xs (k + 2)) h) rfl (Or.inr rfl) rfl rfl rfl (fun r1 τ q1 => ?_)
  obtain ⟨z, rfl, hM⟩ := q1
  iterate 1 (refine kX_one rfl ?_)
  iterate 1 (refine kX_one rfl ?_)
  iterate 4 (refine kX_one rfl ?_)
  refine kX_top (y := nI (k + 1)) (nI_add k 1) ?_
  refine kX_xald rfl (k + 1) rfl (by omega) (by omega) ?_
  iterate 4 (refine kX_one rfl ?_)
  refine kX_top (y := nI (k + 2)) (nI_add k 2) ?_
  refine kX_xald rfl (k + 2) rfl (by omega) (by omega) ?_
  refine kX_cal hM rfl (Or.inr rfl) rfl rfl rfl (fun r1 ω q1 => ?_)
  obtain ⟨rfl, hJ⟩ := q1
  iterate 2 (refine kX_one rfl ?_)
  exact kX_lv _ rfl rfl rfl (kk ω (bJ_up (by omega) hJ))
set_option maxRecDepth 100000 in
theorem lw_role (L : Nat) (xs : Nat → Int32) (σ : kS) (k m : Nat) (Q : Option Value → kS → Prop) (hL : L ≤ 2560) (hk : k + 5 ≤ L) (hm : m < 2147470000) (h : bJ m σ) (kk : ∀ τ, bJ (m + 2401) τ → kX kT L xs 201 0 1040 [(3, .int (nI k)), (2, .ref 232), (1, .ref 0), (0, .retAddr 0)] [] τ Q) : kX kT L xs 201 0 349 [(3, .int (nI k)), (2, .ref 232), (1, .ref 0), (0, .retAddr 0)] [] σ Q := by
  iterate 1 (refine kX_one rfl ?_)
  refine kX_cal (bo_role L xs 197 199 m σ  h) rfl (Or.inr rfl) rfl rfl rfl (fun r1 τ q1 => ?_)
  obtain ⟨z, rfl, hM⟩ := q1
  iterate 1 (refine kX_one rfl ?_)
  iterate 1 (refine kX_one rfl ?_)
  refine kX_cal hM rfl (Or.inr rfl) rfl rfl rfl (fun r1 ω q1 => ?_)
  obtain ⟨rfl, hJ⟩ := q1
  iterate 2 (refine kX_one rfl ?_)
  exact kX_lv _ rfl rfl rfl (kk ω (bJ_up (by omega) hJ))
set_option maxRecDepth 100000 in
theorem lw_variable (L : Nat) (xs : Nat → Int32) (σ : kS) (k m : Nat) (Q : Option Value → kS → Prop) (hL : L ≤ 2560) (hk : k + 5 ≤ L) (hm : m < 2147470000) (h : bJ m σ) (kk : ∀ τ, bJ (m + 2401) τ → kX kT L xs 201 0 1040 [(3, .int (nI k)), (2, .ref 232), (1, .ref 0), (0, .retAddr 0)] [] τ Q) : kX kT L xs 201 0 362 [(3, .int (nI k)), (2, .ref 232), (1, .ref 0), (0, .retAddr 0)] [] σ Q := by
  iterate 1 (refine kX_one rfl ?_)
  iterate 4 (refine kX_one rfl ?_)
  refine kX_top (y := nI (k + 1)) (nI_add k 1) ?_
  refine kX_xald rfl (k + 1) rfl (by omega) (by omega) ?_
  iterate 4 (refine kX_one rfl ?_)
  refine kX_top (y := nI (k + 2)) (nI_add k 2) ?_
  refine kX_xald rfl (k + 2) rfl (by omega) (by omega) ?_
  iterate 4 (refine kX_one rfl ?_)
  refine kX_top (y := nI (k + 3)) (nI_add k 3) ?_
  refine kX_xald rfl (k + 3) rfl (by omega) (by omega) ?_
  refine kX_cal (bo_variable L xs 195 195 m σ (xs (k + 1)) (xs (k + 2)) (xs (k + 3)) h) rfl (Or.inr rfl) rfl rfl rfl (fun r1 τ q1 => ?_)
  obtain ⟨z, rfl, hM⟩ := q1
  iterate 1 (refine kX_one rfl ?_)
  iterate 1 (refine kX_one rfl ?_)
  iterate 4 (refine kX_one rfl ?_)
  refine kX_top (y := nI (k + 1)) (nI_add k 1) ?_
  refine kX_xald rfl (k + 1) rfl (by omega) (by omega) ?_
  iterate 4 (refine kX_one rfl ?_)
  refine kX_top (y := nI (k + 2)) (nI_add k 2) ?_
  refine kX_xald rfl (k + 2) rfl (by omega) (by omega) ?_
  iterate 4 (refine kX_one rfl ?_)
  refine kX_top (y := nI (k + 3)) (nI_add k 3) ?_
  refine kX_xald rfl (k + 3) rfl (by omega) (by omega) ?_
  refine kX_cal hM rfl (Or.inr rfl) rfl rfl rfl (fun r1 ω q1 => ?_)
  obtain ⟨rfl, hJ⟩ := q1
  iterate 2 (refine kX_one rfl ?_)
  exact kX_lv _ rfl rfl rfl (kk ω (bJ_up (by omega) hJ))
set_option maxRecDepth 100000 in
theorem lw_event (L : Nat) (xs : Nat → Int32) (σ : kS) (k m : Nat) (Q : Option Value → kS → Prop) (hL : L ≤ 2560) (hk : k + 5 ≤ L) (hm : m < 2147470000) (h : bJ m σ) (kk : ∀ τ, bJ (m + 2401) τ → kX kT L xs 201 0 1040 [(3, .int (nI k)), (2, .ref 232), (1, .ref 0), (0, .retAddr 0)] [] τ Q) : kX kT L xs 201 0 405 [(3, .int (nI k)), (2, .ref 232), (1, .ref 0), (0, .retAddr 0)] [] σ Q := by
  iterate 1 (refine kX_one rfl ?_)
  iterate 4 (refine kX_one rfl ?_)
  refine kX_top (y := nI (k + 1)) (nI_add k 1) ?_
  refine kX_xald rfl (k + 1) rfl (by omega) (by omega) ?_
  iterate 4 (refine kX_one rfl ?_)
  refine kX_top (y := nI (k + 2)) (nI_add k 2) ?_
  refine kX_xald rfl (k + 2) rfl (by omega) (by omega) ?_
  have kb : ∀ b : Int32, b = 0 ∨ b = 1 → ((jcmp .eq (xs (k + 2)) 0 = true → b = 0) ∧ (jcmp .eq (xs (k + 2)) 0 = false → b = 1)) → kX kT L xs 201 0 424 [(3, .int (nI k)), (2, .ref 232), (1, .ref 0), (0, .retAddr 0)] [.int b, .int (xs (k + 1)), .ref 0] σ Q := by
    intro b hb hq
    iterate 4 (refine kX_one rfl ?_)
    refine kX_top (y := nI (k + 3)) (nI_add k 3) ?_
    refine kX_xald rfl (k + 3) rfl (by omega) (by omega) ?_
    refine kX_cal (bo_event L xs 194 197 m σ (xs (k + 1)) b (xs (k + 3)) hb h) rfl (Or.inr rfl) rfl rfl rfl (fun r1 τ q1 => ?_)
    obtain ⟨z, rfl, hM⟩ := q1
    iterate 1 (refine kX_one rfl ?_)
    iterate 1 (refine kX_one rfl ?_)
    iterate 4 (refine kX_one rfl ?_)
    refine kX_top (y := nI (k + 1)) (nI_add k 1) ?_
    refine kX_xald rfl (k + 1) rfl (by omega) (by omega) ?_
    iterate 4 (refine kX_one rfl ?_)
    refine kX_top (y := nI (k + 2)) (nI_add k 2) ?_
    refine kX_xald rfl (k + 2) rfl (by omega) (by omega) ?_
    have kb' : ∀ b' : Int32, b' = b → kX kT L xs 201 0 452 [(3, .int (nI k)), (2, .ref 232), (1, .ref 0), (0, .retAddr 0)] [.int b', .int (xs (k + 1)), .ref 232] τ Q := by
      rintro b' rfl
      iterate 4 (refine kX_one rfl ?_)
      refine kX_top (y := nI (k + 3)) (nI_add k 3) ?_
      refine kX_xald rfl (k + 3) rfl (by omega) (by omega) ?_
      refine kX_cal hM rfl (Or.inr rfl) rfl rfl rfl (fun r1 ω q1 => ?_)
      obtain ⟨rfl, hJ⟩ := q1
      iterate 2 (refine kX_one rfl ?_)
      exact kX_lv _ rfl rfl rfl (kk ω (bJ_up (by omega) hJ))
    repeat refine kX_one rfl ?_
    refine kX_if (fun q => ?_) (fun q => ?_)
    · iterate 1 (refine kX_one rfl ?_)
      exact kX_lv _ rfl rfl rfl (kb' _ (hq.1 q).symm)
    · iterate 2 (refine kX_one rfl ?_)
      exact kX_lv _ rfl rfl rfl (kb' _ (hq.2 q).symm)
  repeat refine kX_one rfl ?_
  refine kX_if (fun q => ?_) (fun q => ?_)
  · iterate 1 (refine kX_one rfl ?_)
    exact kX_lv _ rfl rfl rfl (kb _ (Or.inl rfl) ⟨fun _ => rfl, fun q2 => absurd (q.symm.trans q2) (by decide)⟩)
  · iterate 2 (refine kX_one rfl ?_)
    exact kX_lv _ rfl rfl rfl (kb _ (Or.inr rfl) ⟨fun q2 => absurd (q.symm.trans q2) (by decide), fun _ => rfl⟩)
set_option maxRecDepth 100000 in
theorem lw_know (L : Nat) (xs : Nat → Int32) (σ : kS) (k m : Nat) (Q : Option Value → kS → Prop) (hL : L ≤ 2560) (hk : k + 5 ≤ L) (hm : m < 2147470000) (h : bJ m σ) (kk : ∀ τ, bJ (m + 2401) τ → kX kT L xs 201 0 1040 [(3, .int (nI k)), (2, .ref 232), (1, .ref 0), (0, .retAddr 0)] [] τ Q) : kX kT L xs 201 0 464 [(3, .int (nI k)), (2, .ref 232), (1, .ref 0), (0, .retAddr 0)] [] σ Q := by
  iterate 1 (refine kX_one rfl ?_)
  iterate 4 (refine kX_one rfl ?_)
  refine kX_top (y := nI (k + 1)) (nI_add k 1) ?_
  refine kX_xald rfl (k + 1) rfl (by omega) (by omega) ?_
  refine kX_cal (bo_know L xs 196 198 m σ (xs (k + 1)) h) rfl (Or.inr rfl) rfl rfl rfl (fun r1 τ q1 => ?_)
  obtain ⟨z, rfl, hM⟩ := q1
  iterate 1 (refine kX_one rfl ?_)
  iterate 1 (refine kX_one rfl ?_)
  iterate 4 (refine kX_one rfl ?_)
  refine kX_top (y := nI (k + 1)) (nI_add k 1) ?_
  refine kX_xald rfl (k + 1) rfl (by omega) (by omega) ?_
  refine kX_cal hM rfl (Or.inr rfl) rfl rfl rfl (fun r1 ω q1 => ?_)
  obtain ⟨rfl, hJ⟩ := q1
  iterate 2 (refine kX_one rfl ?_)
  exact kX_lv _ rfl rfl rfl (kk ω (bJ_up (by omega) hJ))
set_option maxRecDepth 100000 in
theorem lw_session (L : Nat) (xs : Nat → Int32) (σ : kS) (k m : Nat) (Q : Option Value → kS → Prop) (hL : L ≤ 2560) (hk : k + 5 ≤ L) (hm : m < 2147470000) (h : bJ m σ) (kk : ∀ τ, bJ (m + 2401) τ → kX kT L xs 201 0 1040 [(3, .int (nI k)), (2, .ref 232), (1, .ref 0), (0, .retAddr 0)] [] τ Q) : kX kT L xs 201 0 487 [(3, .int (nI k)), (2, .ref 232), (1, .ref 0), (0, .retAddr 0)] [] σ Q := by
  iterate 1 (refine kX_one rfl ?_)
  iterate 4 (refine kX_one rfl ?_)
  refine kX_top (y := nI (k + 1)) (nI_add k 1) ?_
  refine kX_xald rfl (k + 1) rfl (by omega) (by omega) ?_
  iterate 4 (refine kX_one rfl ?_)
  refine kX_top (y := nI (k + 2)) (nI_add k 2) ?_
  refine kX_xald rfl (k + 2) rfl (by omega) (by omega) ?_
  iterate 4 (refine kX_one rfl ?_)
  refine kX_top (y := nI (k + 3)) (nI_add k 3) ?_
  refine kX_xald rfl (k + 3) rfl (by omega) (by omega) ?_
  iterate 4 (refine kX_one rfl ?_)
  refine kX_top (y := nI (k + 4)) (nI_add k 4) ?_
  refine kX_xald rfl (k + 4) rfl (by omega) (by omega) ?_
  refine kX_cal (bo_session L xs 194 196 m σ (xs (k + 1)) (xs (k + 2)) (xs (k + 3)) (xs (k + 4)) h) rfl (Or.inr rfl) rfl rfl rfl (fun r1 τ q1 => ?_)
  obtain ⟨z, rfl, hM⟩ := q1
  iterate 1 (refine kX_one rfl ?_)
  iterate 1 (refine kX_one rfl ?_)
  iterate 4 (refine kX_one rfl ?_)
  refine kX_top (y := nI (k + 1)) (nI_add k 1) ?_
  refine kX_xald rfl (k + 1) rfl (by omega) (by omega) ?_
  iterate 4 (refine kX_one rfl ?_)
  refine kX_top (y := nI (k + 2)) (nI_add k 2) ?_
  refine kX_xald rfl (k + 2) rfl (by omega) (by omega) ?_
  iterate 4 (refine kX_one rfl ?_)
  refine kX_top (y := nI (k + 3)) (nI_add k 3) ?_
  refine kX_xald rfl (k + 3) rfl (by omega) (by omega) ?_
  iterate 4 (refine kX_one rfl ?_)
  refine kX_top (y := nI (k + 4)) (nI_add k 4) ?_
  refine kX_xald rfl (k + 4) rfl (by omega) (by omega) ?_
  refine kX_cal hM rfl (Or.inr rfl) rfl rfl rfl (fun r1 ω q1 => ?_)
  obtain ⟨rfl, hJ⟩ := q1
  iterate 2 (refine kX_one rfl ?_)
  exact kX_lv _ rfl rfl rfl (kk ω (bJ_up (by omega) hJ))
set_option maxRecDepth 100000 in
theorem lw_secret (L : Nat) (xs : Nat → Int32) (σ : kS) (k m : Nat) (Q : Option Value → kS → Prop) (hL : L ≤ 2560) (hk : k + 5 ≤ L) (hm : m < 2147470000) (h : bJ m σ) (kk : ∀ τ, bJ (m + 2401) τ → kX kT L xs 201 0 1040 [(3, .int (nI k)), (2, .ref 232), (1, .ref 0), (0, .retAddr 0)] [] τ Q) : kX kT L xs 201 0 540 [(3, .int (nI k)), (2, .ref 232), (1, .ref 0), (0, .retAddr 0)] [] σ Q := by
  iterate 1 (refine kX_one rfl ?_)
  iterate 4 (refine kX_one rfl ?_)
  refine kX_top (y := nI (k + 1)) (nI_add k 1) ?_
  refine kX_xald rfl (k + 1) rfl (by omega) (by omega) ?_
  iterate 4 (refine kX_one rfl ?_)
  refine kX_top (y := nI (k + 2)) (nI_add k 2) ?_
  refine kX_xald rfl (k + 2) rfl (by omega) (by omega) ?_
  refine kX_cal (bo_secret L xs 197 198 m σ (xs (k + 1)) (xs (k + 2)) h) rfl (Or.inr rfl) rfl rfl rfl (fun r1 τ q1 => ?_)
  obtain ⟨z, rfl, hM⟩ := q1
  iterate 1 (refine kX_one rfl ?_)
  iterate 1 (refine kX_one rfl ?_)
  iterate 4 (refine kX_one rfl ?_)
  refine kX_top (y := nI (k + 1)) (nI_add k 1) ?_
  refine kX_xald rfl (k + 1) rfl (by omega) (by omega) ?_
  iterate 4 (refine kX_one rfl ?_)
  refine kX_top (y := nI (k + 2)) (nI_add k 2) ?_
  refine kX_xald rfl (k + 2) rfl (by omega) (by omega) ?_
  refine kX_cal hM rfl (Or.inr rfl) rfl rfl rfl (fun r1 ω q1 => ?_)
  obtain ⟨rfl, hJ⟩ := q1
  iterate 2 (refine kX_one rfl ?_)
  exact kX_lv _ rfl rfl rfl (kk ω (bJ_up (by omega) hJ))
set_option maxRecDepth 100000 in
theorem lw_agree (L : Nat) (xs : Nat → Int32) (σ : kS) (k m : Nat) (Q : Option Value → kS → Prop) (hL : L ≤ 2560) (hk : k + 5 ≤ L) (hm : m < 2147470000) (h : bJ m σ) (kk : ∀ τ, bJ (m + 2401) τ → kX kT L xs 201 0 1040 [(3, .int (nI k)), (2, .ref 232), (1, .ref 0), (0, .retAddr 0)] [] τ Q) : kX kT L xs 201 0 573 [(3, .int (nI k)), (2, .ref 232), (1, .ref 0), (0, .retAddr 0)] [] σ Q := by
  iterate 1 (refine kX_one rfl ?_)
  iterate 4 (refine kX_one rfl ?_)
  refine kX_top (y := nI (k + 1)) (nI_add k 1) ?_
  refine kX_xald rfl (k + 1) rfl (by omega) (by omega) ?_
  iterate 4 (refine kX_one rfl ?_)
  refine kX_top (y := nI (k + 2)) (nI_add k 2) ?_
  refine kX_xald rfl (k + 2) rfl (by omega) (by omega) ?_
  iterate 4 (refine kX_one rfl ?_)
  refine kX_top (y := nI (k + 3)) (nI_add k 3) ?_
  refine kX_xald rfl (k + 3) rfl (by omega) (by omega) ?_
  refine kX_cal (bo_agree L xs 197 198 m σ (xs (k + 1)) (xs (k + 2)) (xs (k + 3)) h) rfl (Or.inr rfl) rfl rfl rfl (fun r1 τ q1 => ?_)
  obtain ⟨z, rfl, hM⟩ := q1
  iterate 1 (refine kX_one rfl ?_)
  iterate 1 (refine kX_one rfl ?_)
  iterate 4 (refine kX_one rfl ?_)
  refine kX_top (y := nI (k + 1)) (nI_add k 1) ?_
  refine kX_xald rfl (k + 1) rfl (by omega) (by omega) ?_
  iterate 4 (refine kX_one rfl ?_)
  refine kX_top (y := nI (k + 2)) (nI_add k 2) ?_
  refine kX_xald rfl (k + 2) rfl (by omega) (by omega) ?_
  iterate 4 (refine kX_one rfl ?_)
  refine kX_top (y := nI (k + 3)) (nI_add k 3) ?_
  refine kX_xald rfl (k + 3) rfl (by omega) (by omega) ?_
  refine kX_cal hM rfl (Or.inr rfl) rfl rfl rfl (fun r1 ω q1 => ?_)
  obtain ⟨rfl, hJ⟩ := q1
  iterate 2 (refine kX_one rfl ?_)
  exact kX_lv _ rfl rfl rfl (kk ω (bJ_up (by omega) hJ))
set_option maxRecDepth 100000 in
theorem lw_join (L : Nat) (xs : Nat → Int32) (σ : kS) (k m : Nat) (Q : Option Value → kS → Prop) (hL : L ≤ 2560) (hk : k + 5 ≤ L) (hm : m < 2147470000) (h : bJ m σ) (kk : ∀ τ, bJ (m + 2401) τ → kX kT L xs 201 0 1040 [(3, .int (nI k)), (2, .ref 232), (1, .ref 0), (0, .retAddr 0)] [] τ Q) : kX kT L xs 201 0 616 [(3, .int (nI k)), (2, .ref 232), (1, .ref 0), (0, .retAddr 0)] [] σ Q := by
  iterate 1 (refine kX_one rfl ?_)
  iterate 4 (refine kX_one rfl ?_)
  refine kX_top (y := nI (k + 1)) (nI_add k 1) ?_
  refine kX_xald rfl (k + 1) rfl (by omega) (by omega) ?_
  iterate 4 (refine kX_one rfl ?_)
  refine kX_top (y := nI (k + 2)) (nI_add k 2) ?_
  refine kX_xald rfl (k + 2) rfl (by omega) (by omega) ?_
  iterate 4 (refine kX_one rfl ?_)
  refine kX_top (y := nI (k + 3)) (nI_add k 3) ?_
  refine kX_xald rfl (k + 3) rfl (by omega) (by omega) ?_
  refine kX_cal (bo_join L xs 197 199 m σ (xs (k + 1)) (xs (k + 2)) (xs (k + 3)) h) rfl (Or.inr rfl) rfl rfl rfl (fun r1 τ q1 => ?_)
  obtain ⟨z, rfl, hM⟩ := q1
  iterate 1 (refine kX_one rfl ?_)
  iterate 1 (refine kX_one rfl ?_)
  iterate 4 (refine kX_one rfl ?_)
  refine kX_top (y := nI (k + 1)) (nI_add k 1) ?_
  refine kX_xald rfl (k + 1) rfl (by omega) (by omega) ?_
  iterate 4 (refine kX_one rfl ?_)
  refine kX_top (y := nI (k + 2)) (nI_add k 2) ?_
  refine kX_xald rfl (k + 2) rfl (by omega) (by omega) ?_
  iterate 4 (refine kX_one rfl ?_)
  refine kX_top (y := nI (k + 3)) (nI_add k 3) ?_
  refine kX_xald rfl (k + 3) rfl (by omega) (by omega) ?_
  refine kX_cal hM rfl (Or.inr rfl) rfl rfl rfl (fun r1 ω q1 => ?_)
  obtain ⟨rfl, hJ⟩ := q1
  iterate 2 (refine kX_one rfl ?_)
  exact kX_lv _ rfl rfl rfl (kk ω (bJ_up (by omega) hJ))
set_option maxRecDepth 100000 in
theorem lw_begin (L : Nat) (xs : Nat → Int32) (σ : kS) (k m : Nat) (Q : Option Value → kS → Prop) (hL : L ≤ 2560) (hk : k + 5 ≤ L) (hm : m < 2147470000) (h : bJ m σ) (kk : ∀ τ, bJ (m + 2401) τ → kX kT L xs 201 0 1040 [(3, .int (nI k)), (2, .ref 232), (1, .ref 0), (0, .retAddr 0)] [] τ Q) : kX kT L xs 201 0 659 [(3, .int (nI k)), (2, .ref 232), (1, .ref 0), (0, .retAddr 0)] [] σ Q := by
  iterate 1 (refine kX_one rfl ?_)
  refine kX_cal (bo_begin L xs 198 198 m σ  h) rfl (Or.inr rfl) rfl rfl rfl (fun r1 τ q1 => ?_)
  obtain ⟨z, rfl, hM⟩ := q1
  iterate 1 (refine kX_one rfl ?_)
  iterate 1 (refine kX_one rfl ?_)
  refine kX_cal hM rfl (Or.inr rfl) rfl rfl rfl (fun r1 ω q1 => ?_)
  obtain ⟨rfl, hJ⟩ := q1
  iterate 2 (refine kX_one rfl ?_)
  exact kX_lv _ rfl rfl rfl (kk ω (bJ_up (by omega) hJ))
set_option maxRecDepth 100000 in
theorem lw_end (L : Nat) (xs : Nat → Int32) (σ : kS) (k m : Nat) (Q : Option Value → kS → Prop) (hL : L ≤ 2560) (hk : k + 5 ≤ L) (hm : m < 2147470000) (h : bJ m σ) (kk : ∀ τ, bJ (m + 2401) τ → kX kT L xs 201 0 1040 [(3, .int (nI k)), (2, .ref 232), (1, .ref 0), (0, .retAddr 0)] [] τ Q) : kX kT L xs 201 0 672 [(3, .int (nI k)), (2, .ref 232), (1, .ref 0), (0, .retAddr 0)] [] σ Q := by
  iterate 1 (refine kX_one rfl ?_)
  refine kX_cal (bo_end L xs 199 199 m σ  h) rfl (Or.inr rfl) rfl rfl rfl (fun r1 τ q1 => ?_)
  obtain ⟨z, rfl, hM⟩ := q1
  iterate 1 (refine kX_one rfl ?_)
  iterate 1 (refine kX_one rfl ?_)
  refine kX_cal hM rfl (Or.inr rfl) rfl rfl rfl (fun r1 ω q1 => ?_)
  obtain ⟨rfl, hJ⟩ := q1
  iterate 2 (refine kX_one rfl ?_)
  exact kX_lv _ rfl rfl rfl (kk ω (bJ_up (by omega) hJ))
set_option maxRecDepth 100000 in
theorem lw_send (L : Nat) (xs : Nat → Int32) (σ : kS) (k m : Nat) (Q : Option Value → kS → Prop) (hL : L ≤ 2560) (hk : k + 5 ≤ L) (hm : m < 2147470000) (h : bJ m σ) (kk : ∀ τ, bJ (m + 2401) τ → kX kT L xs 201 0 1040 [(3, .int (nI k)), (2, .ref 232), (1, .ref 0), (0, .retAddr 0)] [] τ Q) : kX kT L xs 201 0 685 [(3, .int (nI k)), (2, .ref 232), (1, .ref 0), (0, .retAddr 0)] [] σ Q := by
  iterate 1 (refine kX_one rfl ?_)
  iterate 4 (refine kX_one rfl ?_)
  refine kX_top (y := nI (k + 1)) (nI_add k 1) ?_
  refine kX_xald rfl (k + 1) rfl (by omega) (by omega) ?_
  refine kX_cal (bo_send L xs 144 192 m σ (xs (k + 1)) (by omega) h) rfl (Or.inr rfl) rfl rfl rfl (fun r1 τ q1 => ?_)
  obtain ⟨z, rfl, hM⟩ := q1
  iterate 1 (refine kX_one rfl ?_)
  iterate 1 (refine kX_one rfl ?_)
  iterate 4 (refine kX_one rfl ?_)
  refine kX_top (y := nI (k + 1)) (nI_add k 1) ?_
  refine kX_xald rfl (k + 1) rfl (by omega) (by omega) ?_
  refine kX_cal hM rfl (Or.inr rfl) rfl rfl rfl (fun r1 ω q1 => ?_)
  obtain ⟨rfl, hJ⟩ := q1
  iterate 2 (refine kX_one rfl ?_)
  exact kX_lv _ rfl rfl rfl (kk ω (bJ_up (by omega) hJ))
set_option maxRecDepth 100000 in
theorem lw_receive (L : Nat) (xs : Nat → Int32) (σ : kS) (k m : Nat) (Q : Option Value → kS → Prop) (hL : L ≤ 2560) (hk : k + 5 ≤ L) (hm : m < 2147470000) (h : bJ m σ) (kk : ∀ τ, bJ (m + 2401) τ → kX kT L xs 201 0 1040 [(3, .int (nI k)), (2, .ref 232), (1, .ref 0), (0, .retAddr 0)] [] τ Q) : kX kT L xs 201 0 708 [(3, .int (nI k)), (2, .ref 232), (1, .ref 0), (0, .retAddr 0)] [] σ Q := by
  iterate 1 (refine kX_one rfl ?_)
  iterate 4 (refine kX_one rfl ?_)
  refine kX_top (y := nI (k + 1)) (nI_add k 1) ?_
  refine kX_xald rfl (k + 1) rfl (by omega) (by omega) ?_
  iterate 4 (refine kX_one rfl ?_)
  refine kX_top (y := nI (k + 2)) (nI_add k 2) ?_
  refine kX_xald rfl (k + 2) rfl (by omega) (by omega) ?_
  refine kX_cal (bo_receive L xs 144 192 m σ (xs (k + 1)) (xs (k + 2)) (by omega) h) rfl (Or.inr rfl) rfl rfl rfl (fun r1 τ q1 => ?_)
  obtain ⟨z, rfl, hM⟩ := q1
  iterate 1 (refine kX_one rfl ?_)
  iterate 1 (refine kX_one rfl ?_)
  iterate 4 (refine kX_one rfl ?_)
  refine kX_top (y := nI (k + 1)) (nI_add k 1) ?_
  refine kX_xald rfl (k + 1) rfl (by omega) (by omega) ?_
  iterate 4 (refine kX_one rfl ?_)
  refine kX_top (y := nI (k + 2)) (nI_add k 2) ?_
  refine kX_xald rfl (k + 2) rfl (by omega) (by omega) ?_
  refine kX_cal hM rfl (Or.inr rfl) rfl rfl rfl (fun r1 ω q1 => ?_)
  obtain ⟨rfl, hJ⟩ := q1
  iterate 2 (refine kX_one rfl ?_)
  exact kX_lv _ rfl rfl rfl (kk ω (bJ_up (by omega) hJ))
set_option maxRecDepth 100000 in
theorem lw_makes (L : Nat) (xs : Nat → Int32) (σ : kS) (k m : Nat) (Q : Option Value → kS → Prop) (hL : L ≤ 2560) (hk : k + 5 ≤ L) (hm : m < 2147470000) (h : bJ m σ) (kk : ∀ τ, bJ (m + 2401) τ → kX kT L xs 201 0 1040 [(3, .int (nI k)), (2, .ref 232), (1, .ref 0), (0, .retAddr 0)] [] τ Q) : kX kT L xs 201 0 741 [(3, .int (nI k)), (2, .ref 232), (1, .ref 0), (0, .retAddr 0)] [] σ Q := by
  iterate 1 (refine kX_one rfl ?_)
  iterate 4 (refine kX_one rfl ?_)
  refine kX_top (y := nI (k + 1)) (nI_add k 1) ?_
  refine kX_xald rfl (k + 1) rfl (by omega) (by omega) ?_
  refine kX_cal (bo_makes L xs 144 192 m σ (xs (k + 1)) (by omega) h) rfl (Or.inr rfl) rfl rfl rfl (fun r1 τ q1 => ?_)
  obtain ⟨z, rfl, hM⟩ := q1
  iterate 1 (refine kX_one rfl ?_)
  iterate 1 (refine kX_one rfl ?_)
  iterate 4 (refine kX_one rfl ?_)
  refine kX_top (y := nI (k + 1)) (nI_add k 1) ?_
  refine kX_xald rfl (k + 1) rfl (by omega) (by omega) ?_
  refine kX_cal hM rfl (Or.inr rfl) rfl rfl rfl (fun r1 ω q1 => ?_)
  obtain ⟨rfl, hJ⟩ := q1
  iterate 2 (refine kX_one rfl ?_)
  exact kX_lv _ rfl rfl rfl (kk ω (bJ_up (by omega) hJ))
set_option maxRecDepth 100000 in
theorem lw_row (L : Nat) (xs : Nat → Int32) (σ : kS) (k m : Nat) (Q : Option Value → kS → Prop) (hL : L ≤ 2560) (hk : k + 5 ≤ L) (hm : m < 2147470000) (h : bJ m σ) (kk : ∀ τ, bJ (m + 2401) τ → kX kT L xs 201 0 1040 [(3, .int (nI k)), (2, .ref 232), (1, .ref 0), (0, .retAddr 0)] [] τ Q) : kX kT L xs 201 0 764 [(3, .int (nI k)), (2, .ref 232), (1, .ref 0), (0, .retAddr 0)] [] σ Q := by
  iterate 1 (refine kX_one rfl ?_)
  iterate 4 (refine kX_one rfl ?_)
  refine kX_top (y := nI (k + 1)) (nI_add k 1) ?_
  refine kX_xald rfl (k + 1) rfl (by omega) (by omega) ?_
  iterate 4 (refine kX_one rfl ?_)
  refine kX_top (y := nI (k + 2)) (nI_add k 2) ?_
  refine kX_xald rfl (k + 2) rfl (by omega) (by omega) ?_
  refine kX_cal (bo_row L xs 144 192 m σ (xs (k + 1)) (xs (k + 2)) (by omega) h) rfl (Or.inr rfl) rfl rfl rfl (fun r1 τ q1 => ?_)
  obtain ⟨⟨z, rfl⟩, hM⟩ := q1
  iterate 1 (refine kX_one rfl ?_)
  iterate 1 (refine kX_one rfl ?_)
  iterate 4 (refine kX_one rfl ?_)
  refine kX_top (y := nI (k + 1)) (nI_add k 1) ?_
  refine kX_xald rfl (k + 1) rfl (by omega) (by omega) ?_
  iterate 4 (refine kX_one rfl ?_)
  refine kX_top (y := nI (k + 2)) (nI_add k 2) ?_
  refine kX_xald rfl (k + 2) rfl (by omega) (by omega) ?_
  refine kX_cal hM rfl (Or.inr rfl) rfl rfl rfl (fun r1 ω q1 => ?_)
  obtain ⟨⟨z2, rfl⟩, hJ⟩ := q1
  iterate 2 (refine kX_one rfl ?_)
  exact kX_lv _ rfl rfl rfl (kk ω (bJ_up (by omega) hJ))
set_option maxRecDepth 100000 in
theorem lw_stands (L : Nat) (xs : Nat → Int32) (σ : kS) (k m : Nat) (Q : Option Value → kS → Prop) (hL : L ≤ 2560) (hk : k + 5 ≤ L) (hm : m < 2147470000) (h : bJ m σ) (kk : ∀ τ, bJ (m + 2401) τ → kX kT L xs 201 0 1040 [(3, .int (nI k)), (2, .ref 232), (1, .ref 0), (0, .retAddr 0)] [] τ Q) : kX kT L xs 201 0 797 [(3, .int (nI k)), (2, .ref 232), (1, .ref 0), (0, .retAddr 0)] [] σ Q := by
  iterate 1 (refine kX_one rfl ?_)
  iterate 4 (refine kX_one rfl ?_)
  refine kX_top (y := nI (k + 1)) (nI_add k 1) ?_
  refine kX_xald rfl (k + 1) rfl (by omega) (by omega) ?_
  iterate 4 (refine kX_one rfl ?_)
  refine kX_top (y := nI (k + 2)) (nI_add k 2) ?_
  refine kX_xald rfl (k + 2) rfl (by omega) (by omega) ?_
  refine kX_cal (bo_stands L xs 197 198 m σ (xs (k + 1)) (xs (k + 2)) h) rfl (Or.inr rfl) rfl rfl rfl (fun r1 τ q1 => ?_)
  obtain ⟨z, rfl, hM⟩ := q1
  iterate 1 (refine kX_one rfl ?_)
  iterate 1 (refine kX_one rfl ?_)
  iterate 4 (refine kX_one rfl ?_)
  refine kX_top (y := nI (k + 1)) (nI_add k 1) ?_
  refine kX_xald rfl (k + 1) rfl (by omega) (by omega) ?_
  iterate 4 (refine kX_one rfl ?_)
  refine kX_top (y := nI (k + 2)) (nI_add k 2) ?_
  refine kX_xald rfl (k + 2) rfl (by omega) (by omega) ?_
  refine kX_cal hM rfl (Or.inr rfl) rfl rfl rfl (fun r1 ω q1 => ?_)
  obtain ⟨rfl, hJ⟩ := q1
  iterate 2 (refine kX_one rfl ?_)
  exact kX_lv _ rfl rfl rfl (kk ω (bJ_up (by omega) hJ))
set_option maxRecDepth 100000 in
theorem lw_done (L : Nat) (xs : Nat → Int32) (σ : kS) (k m : Nat) (Q : Option Value → kS → Prop) (hL : L ≤ 2560) (hk : k + 5 ≤ L) (hm : m < 2147470000) (h : bJ m σ) (kk : ∀ τ, bJ (m + 2401) τ → kX kT L xs 201 0 1040 [(3, .int (nI k)), (2, .ref 232), (1, .ref 0), (0, .retAddr 0)] [] τ Q) : kX kT L xs 201 0 830 [(3, .int (nI k)), (2, .ref 232), (1, .ref 0), (0, .retAddr 0)] [] σ Q := by
  iterate 1 (refine kX_one rfl ?_)
  iterate 4 (refine kX_one rfl ?_)
  refine kX_top (y := nI (k + 1)) (nI_add k 1) ?_
  refine kX_xald rfl (k + 1) rfl (by omega) (by omega) ?_
  refine kX_cal (bo_done L xs 198 198 m σ (xs (k + 1)) h) rfl (Or.inr rfl) rfl rfl rfl (fun r1 τ q1 => ?_)
  obtain ⟨z, rfl, hM⟩ := q1
  iterate 1 (refine kX_one rfl ?_)
  iterate 1 (refine kX_one rfl ?_)
  iterate 4 (refine kX_one rfl ?_)
  refine kX_top (y := nI (k + 1)) (nI_add k 1) ?_
  refine kX_xald rfl (k + 1) rfl (by omega) (by omega) ?_
  refine kX_cal hM rfl (Or.inr rfl) rfl rfl rfl (fun r1 ω q1 => ?_)
  obtain ⟨rfl, hJ⟩ := q1
  iterate 2 (refine kX_one rfl ?_)
  exact kX_lv _ rfl rfl rfl (kk ω (bJ_up (by omega) hJ))
set_option maxRecDepth 100000 in
theorem lw_broken (L : Nat) (xs : Nat → Int32) (σ : kS) (k m : Nat) (Q : Option Value → kS → Prop) (hL : L ≤ 2560) (hk : k + 5 ≤ L) (hm : m < 2147470000) (h : bJ m σ) (kk : ∀ τ, bJ (m + 2401) τ → kX kT L xs 201 0 1040 [(3, .int (nI k)), (2, .ref 232), (1, .ref 0), (0, .retAddr 0)] [] τ Q) : kX kT L xs 201 0 853 [(3, .int (nI k)), (2, .ref 232), (1, .ref 0), (0, .retAddr 0)] [] σ Q := by
  iterate 1 (refine kX_one rfl ?_)
  iterate 4 (refine kX_one rfl ?_)
  refine kX_top (y := nI (k + 1)) (nI_add k 1) ?_
  refine kX_xald rfl (k + 1) rfl (by omega) (by omega) ?_
  refine kX_cal (bo_broken L xs 144 192 m σ (xs (k + 1)) (by omega) h) rfl (Or.inr rfl) rfl rfl rfl (fun r1 τ q1 => ?_)
  obtain ⟨z, rfl, hM⟩ := q1
  iterate 1 (refine kX_one rfl ?_)
  iterate 1 (refine kX_one rfl ?_)
  iterate 4 (refine kX_one rfl ?_)
  refine kX_top (y := nI (k + 1)) (nI_add k 1) ?_
  refine kX_xald rfl (k + 1) rfl (by omega) (by omega) ?_
  refine kX_cal hM rfl (Or.inr rfl) rfl rfl rfl (fun r1 ω q1 => ?_)
  obtain ⟨rfl, hJ⟩ := q1
  iterate 2 (refine kX_one rfl ?_)
  exact kX_lv _ rfl rfl rfl (kk ω (bJ_up (by omega) hJ))
set_option maxRecDepth 100000 in
theorem lw_undo (L : Nat) (xs : Nat → Int32) (σ : kS) (k m : Nat) (Q : Option Value → kS → Prop) (hL : L ≤ 2560) (hk : k + 5 ≤ L) (hm : m < 2147470000) (h : bJ m σ) (kk : ∀ τ, bJ (m + 2401) τ → kX kT L xs 201 0 1040 [(3, .int (nI k)), (2, .ref 232), (1, .ref 0), (0, .retAddr 0)] [] τ Q) : kX kT L xs 201 0 876 [(3, .int (nI k)), (2, .ref 232), (1, .ref 0), (0, .retAddr 0)] [] σ Q := by
  iterate 1 (refine kX_one rfl ?_)
  refine kX_cal (bo_undo L xs 197 199 m σ  h) rfl (Or.inr rfl) rfl rfl rfl (fun r1 τ q1 => ?_)
  obtain ⟨z, rfl, hM⟩ := q1
  iterate 1 (refine kX_one rfl ?_)
  iterate 1 (refine kX_one rfl ?_)
  refine kX_cal hM rfl (Or.inr rfl) rfl rfl rfl (fun r1 ω q1 => ?_)
  obtain ⟨rfl, hJ⟩ := q1
  iterate 2 (refine kX_one rfl ?_)
  exact kX_lv _ rfl rfl rfl (kk ω (bJ_up (by omega) hJ))
set_option maxRecDepth 100000 in
theorem lw_search (L : Nat) (xs : Nat → Int32) (σ : kS) (k m : Nat) (Q : Option Value → kS → Prop) (hL : L ≤ 2560) (hk : k + 5 ≤ L) (hm : m < 2147470000) (h : bJ m σ) (kk : ∀ τ, bJ (m + 2401) τ → kX kT L xs 201 0 1040 [(3, .int (nI k)), (2, .ref 232), (1, .ref 0), (0, .retAddr 0)] [] τ Q) : kX kT L xs 201 0 889 [(3, .int (nI k)), (2, .ref 232), (1, .ref 0), (0, .retAddr 0)] [] σ Q := by
  iterate 1 (refine kX_one rfl ?_)
  refine kX_cal (bo_search L xs 142 189 m σ  h hm) rfl (Or.inr rfl) rfl rfl rfl (fun r1 τ q1 => ?_)
  obtain ⟨z, rfl, hM⟩ := q1
  iterate 1 (refine kX_one rfl ?_)
  iterate 1 (refine kX_one rfl ?_)
  refine kX_cal hM rfl (Or.inr rfl) rfl rfl rfl (fun r1 ω q1 => ?_)
  obtain ⟨rfl, hJ⟩ := q1
  iterate 2 (refine kX_one rfl ?_)
  exact kX_lv _ rfl rfl rfl (kk ω (bJ_up (by omega) hJ))
set_option maxRecDepth 100000 in
theorem lw_found (L : Nat) (xs : Nat → Int32) (σ : kS) (k m : Nat) (Q : Option Value → kS → Prop) (hL : L ≤ 2560) (hk : k + 5 ≤ L) (hm : m < 2147470000) (h : bJ m σ) (kk : ∀ τ, bJ (m + 2401) τ → kX kT L xs 201 0 1040 [(3, .int (nI k)), (2, .ref 232), (1, .ref 0), (0, .retAddr 0)] [] τ Q) : kX kT L xs 201 0 902 [(3, .int (nI k)), (2, .ref 232), (1, .ref 0), (0, .retAddr 0)] [] σ Q := by
  iterate 1 (refine kX_one rfl ?_)
  iterate 4 (refine kX_one rfl ?_)
  refine kX_top (y := nI (k + 1)) (nI_add k 1) ?_
  refine kX_xald rfl (k + 1) rfl (by omega) (by omega) ?_
  refine kX_cal (bo_found L xs 198 199 m σ (xs (k + 1)) h) rfl (Or.inr rfl) rfl rfl rfl (fun r1 τ q1 => ?_)
  obtain ⟨z, rfl, hM⟩ := q1
  iterate 1 (refine kX_one rfl ?_)
  iterate 1 (refine kX_one rfl ?_)
  iterate 4 (refine kX_one rfl ?_)
  refine kX_top (y := nI (k + 1)) (nI_add k 1) ?_
  refine kX_xald rfl (k + 1) rfl (by omega) (by omega) ?_
  refine kX_cal hM rfl (Or.inr rfl) rfl rfl rfl (fun r1 ω q1 => ?_)
  obtain ⟨rfl, hJ⟩ := q1
  iterate 2 (refine kX_one rfl ?_)
  exact kX_lv _ rfl rfl rfl (kk ω (bJ_up (by omega) hJ))
set_option maxRecDepth 100000 in
theorem lw_attack (L : Nat) (xs : Nat → Int32) (σ : kS) (k m : Nat) (Q : Option Value → kS → Prop) (hL : L ≤ 2560) (hk : k + 5 ≤ L) (hm : m < 2147470000) (h : bJ m σ) (kk : ∀ τ, bJ (m + 2401) τ → kX kT L xs 201 0 1040 [(3, .int (nI k)), (2, .ref 232), (1, .ref 0), (0, .retAddr 0)] [] τ Q) : kX kT L xs 201 0 925 [(3, .int (nI k)), (2, .ref 232), (1, .ref 0), (0, .retAddr 0)] [] σ Q := by
  iterate 1 (refine kX_one rfl ?_)
  iterate 4 (refine kX_one rfl ?_)
  refine kX_top (y := nI (k + 1)) (nI_add k 1) ?_
  refine kX_xald rfl (k + 1) rfl (by omega) (by omega) ?_
  refine kX_cal (bo_attack L xs 198 199 m σ (xs (k + 1)) h) rfl (Or.inr rfl) rfl rfl rfl (fun r1 τ q1 => ?_)
  obtain ⟨z, rfl, hM⟩ := q1
  iterate 1 (refine kX_one rfl ?_)
  iterate 1 (refine kX_one rfl ?_)
  iterate 4 (refine kX_one rfl ?_)
  refine kX_top (y := nI (k + 1)) (nI_add k 1) ?_
  refine kX_xald rfl (k + 1) rfl (by omega) (by omega) ?_
  refine kX_cal hM rfl (Or.inr rfl) rfl rfl rfl (fun r1 ω q1 => ?_)
  obtain ⟨rfl, hJ⟩ := q1
  iterate 2 (refine kX_one rfl ?_)
  exact kX_lv _ rfl rfl rfl (kk ω (bJ_up (by omega) hJ))
set_option maxRecDepth 100000 in
theorem lw_play (L : Nat) (xs : Nat → Int32) (σ : kS) (k m : Nat) (Q : Option Value → kS → Prop) (hL : L ≤ 2560) (hk : k + 5 ≤ L) (hm : m < 2147470000) (h : bJ m σ) (kk : ∀ τ, bJ (m + 2401) τ → kX kT L xs 201 0 1040 [(3, .int (nI k)), (2, .ref 232), (1, .ref 0), (0, .retAddr 0)] [] τ Q) : kX kT L xs 201 0 948 [(3, .int (nI k)), (2, .ref 232), (1, .ref 0), (0, .retAddr 0)] [] σ Q := by
  iterate 1 (refine kX_one rfl ?_)
  iterate 4 (refine kX_one rfl ?_)
  refine kX_top (y := nI (k + 1)) (nI_add k 1) ?_
  refine kX_xald rfl (k + 1) rfl (by omega) (by omega) ?_
  refine kX_cal (bo_play L xs 144 192 m σ (xs (k + 1)) (by omega) h) rfl (Or.inr rfl) rfl rfl rfl (fun r1 τ q1 => ?_)
  obtain ⟨z, rfl, hM⟩ := q1
  iterate 1 (refine kX_one rfl ?_)
  iterate 1 (refine kX_one rfl ?_)
  iterate 4 (refine kX_one rfl ?_)
  refine kX_top (y := nI (k + 1)) (nI_add k 1) ?_
  refine kX_xald rfl (k + 1) rfl (by omega) (by omega) ?_
  refine kX_cal hM rfl (Or.inr rfl) rfl rfl rfl (fun r1 ω q1 => ?_)
  obtain ⟨rfl, hJ⟩ := q1
  iterate 2 (refine kX_one rfl ?_)
  exact kX_lv _ rfl rfl rfl (kk ω (bJ_up (by omega) hJ))
set_option maxRecDepth 100000 in
theorem lw_told (L : Nat) (xs : Nat → Int32) (σ : kS) (k m : Nat) (Q : Option Value → kS → Prop) (hL : L ≤ 2560) (hk : k + 5 ≤ L) (hm : m < 2147470000) (h : bJ m σ) (kk : ∀ τ, bJ (m + 2401) τ → kX kT L xs 201 0 1040 [(3, .int (nI k)), (2, .ref 232), (1, .ref 0), (0, .retAddr 0)] [] τ Q) : kX kT L xs 201 0 971 [(3, .int (nI k)), (2, .ref 232), (1, .ref 0), (0, .retAddr 0)] [] σ Q := by
  iterate 1 (refine kX_one rfl ?_)
  iterate 4 (refine kX_one rfl ?_)
  refine kX_top (y := nI (k + 1)) (nI_add k 1) ?_
  refine kX_xald rfl (k + 1) rfl (by omega) (by omega) ?_
  refine kX_cal (bo_told L xs 199 199 m σ (xs (k + 1)) h) rfl (Or.inr rfl) rfl rfl rfl (fun r1 τ q1 => ?_)
  obtain ⟨z, rfl, hM⟩ := q1
  iterate 1 (refine kX_one rfl ?_)
  iterate 1 (refine kX_one rfl ?_)
  iterate 4 (refine kX_one rfl ?_)
  refine kX_top (y := nI (k + 1)) (nI_add k 1) ?_
  refine kX_xald rfl (k + 1) rfl (by omega) (by omega) ?_
  refine kX_cal hM rfl (Or.inr rfl) rfl rfl rfl (fun r1 ω q1 => ?_)
  obtain ⟨rfl, hJ⟩ := q1
  iterate 2 (refine kX_one rfl ?_)
  exact kX_lv _ rfl rfl rfl (kk ω (bJ_up (by omega) hJ))
set_option maxRecDepth 100000 in
theorem lw_ofRole (L : Nat) (xs : Nat → Int32) (σ : kS) (k m : Nat) (Q : Option Value → kS → Prop) (hL : L ≤ 2560) (hk : k + 5 ≤ L) (hm : m < 2147470000) (h : bJ m σ) (kk : ∀ τ, bJ (m + 2401) τ → kX kT L xs 201 0 1040 [(3, .int (nI k)), (2, .ref 232), (1, .ref 0), (0, .retAddr 0)] [] τ Q) : kX kT L xs 201 0 994 [(3, .int (nI k)), (2, .ref 232), (1, .ref 0), (0, .retAddr 0)] [] σ Q := by
  iterate 1 (refine kX_one rfl ?_)
  iterate 4 (refine kX_one rfl ?_)
  refine kX_top (y := nI (k + 1)) (nI_add k 1) ?_
  refine kX_xald rfl (k + 1) rfl (by omega) (by omega) ?_
  iterate 4 (refine kX_one rfl ?_)
  refine kX_top (y := nI (k + 2)) (nI_add k 2) ?_
  refine kX_xald rfl (k + 2) rfl (by omega) (by omega) ?_
  refine kX_cal (bo_ofRole L xs 198 198 m σ (xs (k + 1)) (xs (k + 2)) h) rfl (Or.inr rfl) rfl rfl rfl (fun r1 τ q1 => ?_)
  obtain ⟨z, rfl, hM⟩ := q1
  iterate 1 (refine kX_one rfl ?_)
  iterate 1 (refine kX_one rfl ?_)
  iterate 4 (refine kX_one rfl ?_)
  refine kX_top (y := nI (k + 1)) (nI_add k 1) ?_
  refine kX_xald rfl (k + 1) rfl (by omega) (by omega) ?_
  iterate 4 (refine kX_one rfl ?_)
  refine kX_top (y := nI (k + 2)) (nI_add k 2) ?_
  refine kX_xald rfl (k + 2) rfl (by omega) (by omega) ?_
  refine kX_cal hM rfl (Or.inr rfl) rfl rfl rfl (fun r1 ω q1 => ?_)
  obtain ⟨rfl, hJ⟩ := q1
  iterate 2 (refine kX_one rfl ?_)
  exact kX_lv _ rfl rfl rfl (kk ω (bJ_up (by omega) hJ))
set_option maxRecDepth 100000 in
theorem lw_clear (L : Nat) (xs : Nat → Int32) (σ : kS) (k m : Nat) (Q : Option Value → kS → Prop) (hL : L ≤ 2560) (hk : k + 5 ≤ L) (hm : m < 2147470000) (h : bJ m σ) (kk : ∀ τ, bJ (m + 2401) τ → kX kT L xs 201 0 1040 [(3, .int (nI k)), (2, .ref 232), (1, .ref 0), (0, .retAddr 0)] [] τ Q) : kX kT L xs 201 0 1027 [(3, .int (nI k)), (2, .ref 232), (1, .ref 0), (0, .retAddr 0)] [] σ Q := by
  iterate 1 (refine kX_one rfl ?_)
  refine kX_cal (bo_clear L xs 196 198 m σ  h) rfl (Or.inr rfl) rfl rfl rfl (fun r1 τ q1 => ?_)
  obtain ⟨z, rfl, hM⟩ := q1
  iterate 1 (refine kX_one rfl ?_)
  refine kX_cal hM rfl (Or.inr rfl) rfl rfl rfl (fun r1 ω q1 => ?_)
  obtain ⟨rfl, hJ⟩ := q1
  repeat refine kX_one rfl ?_
  refine kX_ifT (decide_eq_true rfl) ?_
  exact kX_lv _ rfl rfl rfl (kk ω (bJ_up (by omega) hJ))
