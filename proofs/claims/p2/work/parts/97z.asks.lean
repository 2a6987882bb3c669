section
/-! the class: what hangs on which cells; simple calls -/
theorem cT_eq {σ τ : kS} {n : Nat} (e0 : τ 1 11 = σ 1 11) (e1 : τ 7 = σ 7) (e : ∀ u, u < n → τ 2 u = σ 2 u ∧ τ 3 u = σ 3 u ∧ τ 4 u = σ 4 u ∧ τ 8 u = σ 8 u ∧ τ 12 u = σ 12 u ∧ τ 6 u = σ 6 u) (h : cT σ n) : cT τ n := by
  obtain ⟨a1, a2, a3, a4⟩ := h
  refine ⟨a1, e0.trans a2, fun s hs => ?_, fun t ht => cTt_eq (fun u hu => e u (by omega)) (a4 t ht)⟩
  rw [e1]
  rcases a3 s hs with q | ⟨t, t1, t2, t3⟩
  · exact Or.inl q
  · exact Or.inr ⟨t, t1, t2, by rw [(e t t1).1]; exact t3⟩
theorem cV_eq {σ τ : kS} {n S base : Nat} {A : Nat → Int32} (e : ∀ z, z < n → τ 8 z = σ 8 z) (h : cV σ n S A base) : cV τ n S A base := fun s k hs hk => by
  rcases h s k hs hk with q | ⟨z, z1, z2, z3⟩
  · exact Or.inl q
  · exact Or.inr ⟨z, z1, z2, by rw [e z z1]; exact z3⟩
theorem cSe_eq {σ τ : kS} {n R S : Nat} (e : ∀ z, z < n → τ 8 z = σ 8 z) (e1 : τ 13 6 = σ 13 6) (e2 : τ 15 = σ 15) (e3 : τ 17 = σ 17) (h : cSe σ n R S) : cSe τ n R S := by
  obtain ⟨a1, a2, a3, a4⟩ := h
  refine ⟨a1, e1.trans a2, by rw [e2]; exact a3, ?_⟩
  rw [e3]
  exact cV_eq e a4
theorem cCl_eq {σ τ : kS} {C : Nat} (e1 : τ 13 8 = σ 13 8) (e : ∀ c, 163 ≤ c → c < 181 → τ c = σ c) (h : cCl σ C) : cCl τ C := by
  obtain ⟨a1, a2, a3⟩ := h
  refine ⟨a1, e1.trans a2, fun c hc => ?_⟩
  rw [e (163 + 3 * c) (by omega) (by omega), e (164 + 3 * c) (by omega) (by omega), e (165 + 3 * c) (by omega) (by omega)]
  exact a3 c hc
theorem cKn_eq {σ τ : kS} (e1 : τ 13 10 = σ 13 10) (h : cKn σ) : cKn τ := by
  obtain ⟨k, k1, k2⟩ := h
  exact ⟨k, k1, e1.trans k2⟩
theorem cKg_eq {σ τ : kS} {n st u : Nat} (e : ∀ z, z < n → τ 8 z = σ 8 z) (e2 : ∀ g, st ≤ g → g < st + u → τ 3 g = σ 3 g ∧ τ 4 g = σ 4 g) (h : cKg σ n st u) : cKg τ n st u := fun g g1 g2 => by
  rw [(e2 g g1 g2).1, (e2 g g1 g2).2]
  have key : ∀ c, cKc σ n c → cKc τ n c := fun c hc => by
    rcases hc with q | ⟨z, z1, z2, z3⟩ | q
    · exact Or.inl q
    · exact Or.inr (Or.inl ⟨z, z1, z2, by rw [e z z1]; exact z3⟩)
    · exact Or.inr (Or.inr q)
  exact ⟨key _ (h g g1 g2).1, key _ (h g g1 g2).2⟩
theorem cRu_eq {σ τ : kS} {n S : Nat} (e : ∀ z, z < n → τ 8 z = σ 8 z) (e1 : τ 181 = σ 181) (e2 : τ 183 = σ 183) (e3 : τ 182 = σ 182) (e4 : τ 186 3 = σ 186 3) (e5 : ∀ g, 200 ≤ g → g < 776 → τ 3 g = σ 3 g ∧ τ 4 g = σ 4 g) (h : cRu σ n S) : cRu τ n S := by
  unfold cRu
  rw [e1, e2, e3, e4]
  rcases h with q | ⟨q1, q2, q3, q4⟩
  · exact Or.inl q
  · refine Or.inr ⟨q1, q2, cV_eq e q3, ?_⟩
    rcases q4 with q4 | ⟨g, g1, g2, g3⟩
    · exact Or.inl q4
    · refine Or.inr ⟨g, g1, g2, fun hg => ?_⟩
      obtain ⟨u, u1, u2, u3⟩ := g3 hg
      exact ⟨u, u1, u2, cKg_eq e (fun g x1 x2 => e5 g x1 (by omega)) u3⟩
theorem cSr_eq {σ τ : kS} {n S : Nat} (e : ∀ z, z < n → τ 8 z = σ 8 z) (e1 : τ 196 5 = σ 196 5) (e2 : τ 197 = σ 197) (e3 : τ 198 = σ 198) (e4 : τ 199 = σ 199) (e5 : τ 195 9 = σ 195 9) (e6 : τ 203 = σ 203) (h : cSr σ n S) : cSr τ n S := by
  obtain ⟨N, a1, a2, a3, a4, a5⟩ := h
  refine ⟨N, a1, e1.trans a2, fun i hi => ?_, by rw [e3, e4]; exact a4, by rw [e5, e6]; exact a5⟩
  rw [e2]
  exact cV_eq e (a3 i hi)
theorem cQ_eq {σ τ : kS} (e1 : τ 231 = σ 231) (e2 : τ 222 = σ 222) (h : cQ σ) : cQ τ := by
  unfold cQ
  rw [e1, e2]
  exact h
/-- cells above all that the TERMS, ROLES .. have: the run's -/
theorem cJ_run {σ τ : kS} {n R S C : Nat} (h : cJ σ n R S C) (e : ∀ c, c < 181 ∨ 186 ≤ c → τ c = σ c) (hr : cRu τ n S) : cJ τ n R S C := by
  obtain ⟨h1, h2, h3, h4, h5, h6, h7, h8, h9, h10, h11⟩ := h
  have el : ∀ c, c < 181 → τ c = σ c := fun c hc => e c (Or.inl hc)
  have eh : ∀ c, 186 ≤ c → τ c = σ c := fun c hc => e c (Or.inr hc)
  have hg : ∀ z, z < n → τ 8 z = σ 8 z := fun z _ => by rw [el _ (by decide)]
  have hgt : ∀ g, 200 ≤ g → τ 2 g = σ 2 g ∧ τ 3 g = σ 3 g ∧ τ 4 g = σ 4 g ∧ τ 6 g = σ 6 g := fun g _ => by
    rw [el 2 (by decide), el 3 (by decide), el 4 (by decide), el 6 (by decide)]
    exact ⟨rfl, rfl, rfl, rfl⟩
  refine ⟨cT_eq (by rw [el 1 (by decide)]) (el _ (by decide)) (fun u _ => ?_) h1, cRo_gr (Nat.le_refl _) (fun c c1 c2 => el c (by omega)) h2, cSe_eq hg (by rw [el 13 (by decide)]) (el _ (by decide)) (el _ (by decide)) h3, cCl_eq (by rw [el 13 (by decide)]) (fun c c1 c2 => el c (by omega)) h4, cKn_eq (by rw [el 13 (by decide)]) h5, cKw_eq (by decide) (eh _ (by decide)) (eh _ (by decide)) (eh _ (by decide)) hgt h6, cKw_eq (by decide) (eh _ (by decide)) (eh _ (by decide)) (eh _ (by decide)) hgt h7, cKw_eq (by decide) (eh _ (by decide)) (eh _ (by decide)) (eh _ (by decide)) hgt h8, hr, cSr_eq hg (by rw [eh 196 (by decide)]) (eh _ (by decide)) (eh _ (by decide)) (eh _ (by decide)) (by rw [eh 195 (by decide)]) (eh _ (by decide)) h10, cQ_eq (eh _ (by decide)) (eh _ (by decide)) h11⟩
  rw [el 2 (by decide), el 3 (by decide), el 4 (by decide), el 8 (by decide), el 12 (by decide), el 6 (by decide)]
  exact ⟨rfl, rfl, rfl, rfl, rfl, rfl⟩
set_option maxRecDepth 100000 in
set_option maxHeartbeats 4000000 in
theorem mk_about (L : Nat) (xs : Nat → Int32) (d : Nat) (σ : kS) (n R S C : Nat) (x w : Int32) (h : cJ σ n R S C) : kXM kT L xs (d + 2) 113 [.ref 0, .int x, .int w] σ (fun r σ' => (∃ x, r = some (.int x)) ∧ cAfter σ σ' R) := by
  have hT := h.1
  have hn := hT.1
  unfold kXM
  iterate 3 (refine kX_one rfl ?_)
  refine kX_cal (mc_has L xs d σ n x hn hT.2.1) rfl (Or.inr rfl) rfl rfl rfl (fun r1 σ1 q1 => ?_)
  obtain ⟨rfl, rfl⟩ := q1
  repeat refine kX_one rfl ?_
  refine kX_if (fun q => ?_) (fun q => ?_)
  · obtain ⟨t, ht, rfl⟩ := isB_ne.mp (qne q)
    repeat refine kX_one rfl ?_
    refine kX_if (fun q2 => ?_) (fun q2 => ?_)
    · repeat refine kX_one rfl ?_
      refine kX_ret (i := .ireturn) (len := 1) rfl (Or.inr rfl) rfl (⟨⟨_, rfl⟩, cAfter_same h⟩)
    · have q2 : ¬ w < 0 := of_decide_eq_false q2
      obtain ⟨k, hk, rfl⟩ := nI_of q2
      repeat refine kX_one rfl ?_
      refine kX_if (fun q3 => ?_) (fun q3 => ?_)
      · have q3 := qle q3 k 8
        iterate 4 (refine kX_one rfl ?_)
        refine kX_ialdN rfl rfl (by decide) (t) (by first | rfl | decide) (by omega) ?_
        have : k = 0 ∨ k = 1 ∨ k = 2 ∨ k = 3 ∨ k = 4 ∨ k = 5 ∨ k = 6 ∨ k = 7 ∨ k = 8 := by omega
        rcases this with rfl | rfl | rfl | rfl | rfl | rfl | rfl | rfl | rfl
        · repeat refine kX_one rfl ?_
          refine kX_ret (i := .ireturn) (len := 1) rfl (Or.inr rfl) rfl (⟨⟨_, rfl⟩, cAfter_same h⟩)
        · repeat refine kX_one rfl ?_
          refine kX_ialdN rfl rfl (by decide) (t) (by first | rfl | decide) (by omega) ?_
          refine kX_cal (mc_orNone L xs d σ _) rfl (Or.inr rfl) rfl rfl rfl (fun r1 σ1 q1 => ?_)
          obtain ⟨rfl, rfl⟩ := q1
          refine kX_ret (i := .ireturn) (len := 1) rfl (Or.inr rfl) rfl (⟨⟨_, rfl⟩, cAfter_same h⟩)
        · repeat refine kX_one rfl ?_
          refine kX_ialdN rfl rfl (by decide) (t) (by first | rfl | decide) (by omega) ?_
          refine kX_cal (mc_orNone L xs d σ _) rfl (Or.inr rfl) rfl rfl rfl (fun r1 σ1 q1 => ?_)
          obtain ⟨rfl, rfl⟩ := q1
          refine kX_ret (i := .ireturn) (len := 1) rfl (Or.inr rfl) rfl (⟨⟨_, rfl⟩, cAfter_same h⟩)
        · repeat refine kX_one rfl ?_
          refine kX_ialdN rfl rfl (by decide) (t) (by first | rfl | decide) (by omega) ?_
          refine kX_ret (i := .ireturn) (len := 1) rfl (Or.inr rfl) rfl (⟨⟨_, rfl⟩, cAfter_same h⟩)
        · repeat refine kX_one rfl ?_
          refine kX_baldN rfl rfl (by decide) (t) (by first | rfl | decide) (by omega) ?_
          refine kX_cal (mc_asNumber L xs d σ _) rfl (Or.inr rfl) rfl rfl rfl (fun r1 σ1 q1 => ?_)
          obtain ⟨rfl, rfl⟩ := q1
          refine kX_ret (i := .ireturn) (len := 1) rfl (Or.inr rfl) rfl (⟨⟨_, rfl⟩, cAfter_same h⟩)
        · repeat refine kX_one rfl ?_
          refine kX_if (fun q4 => ?_) (fun q4 => ?_)
          · repeat refine kX_one rfl ?_
            refine kX_ret (i := .ireturn) (len := 1) rfl (Or.inr rfl) rfl (⟨⟨_, rfl⟩, cAfter_same h⟩)
          · repeat refine kX_one rfl ?_
            refine kX_baldN rfl rfl (by decide) (t) (by first | rfl | decide) (by omega) ?_
            refine kX_cal (mc_asNumber L xs d σ _) rfl (Or.inr rfl) rfl rfl rfl (fun r1 σ1 q1 => ?_)
            obtain ⟨rfl, rfl⟩ := q1
            repeat refine kX_one rfl ?_
            refine kX_ret (i := .ireturn) (len := 1) rfl (Or.inr rfl) rfl (⟨⟨_, rfl⟩, cAfter_same h⟩)
        · repeat refine kX_one rfl ?_
          refine kX_if (fun q4 => ?_) (fun q4 => ?_)
          · repeat refine kX_one rfl ?_
            refine kX_ret (i := .ireturn) (len := 1) rfl (Or.inr rfl) rfl (⟨⟨_, rfl⟩, cAfter_same h⟩)
          · repeat refine kX_one rfl ?_
            refine kX_ialdN rfl rfl (by decide) (t) (by first | rfl | decide) (by omega) ?_
            repeat refine kX_one rfl ?_
            refine kX_ret (i := .ireturn) (len := 1) rfl (Or.inr rfl) rfl (⟨⟨_, rfl⟩, cAfter_same h⟩)
        · repeat refine kX_one rfl ?_
          refine kX_if (fun q4 => ?_) (fun q4 => ?_)
          · repeat refine kX_one rfl ?_
            refine kX_ret (i := .ireturn) (len := 1) rfl (Or.inr rfl) rfl (⟨⟨_, rfl⟩, cAfter_same h⟩)
          · repeat refine kX_one rfl ?_
            refine kX_ialdN rfl rfl (by decide) (t) (by first | rfl | decide) (by omega) ?_
            repeat refine kX_one rfl ?_
            refine kX_ret (i := .ireturn) (len := 1) rfl (Or.inr rfl) rfl (⟨⟨_, rfl⟩, cAfter_same h⟩)
        · repeat refine kX_one rfl ?_
          refine kX_if (fun q4 => ?_) (fun q4 => ?_)
          · repeat refine kX_one rfl ?_
            refine kX_ret (i := .ireturn) (len := 1) rfl (Or.inr rfl) rfl (⟨⟨_, rfl⟩, cAfter_same h⟩)
          · repeat refine kX_one rfl ?_
            refine kX_ialdN rfl rfl (by decide) (t) (by first | rfl | decide) (by omega) ?_
            repeat refine kX_one rfl ?_
            refine kX_ret (i := .ireturn) (len := 1) rfl (Or.inr rfl) rfl (⟨⟨_, rfl⟩, cAfter_same h⟩)
      · repeat refine kX_one rfl ?_
        refine kX_ret (i := .ireturn) (len := 1) rfl (Or.inr rfl) rfl (⟨⟨_, rfl⟩, cAfter_same h⟩)
  · repeat refine kX_one rfl ?_
    refine kX_ret (i := .ireturn) (len := 1) rfl (Or.inr rfl) rfl (⟨⟨_, rfl⟩, cAfter_same h⟩)
set_option maxRecDepth 100000 in
set_option maxHeartbeats 4000000 in
theorem mc_hasAttack (L : Nat) (xs : Nat → Int32) (d : Nat) (σ : kS) : kXM kT L xs (d + 1) 77 [.ref 195] σ (fun r σ' => r = some (.int (isB (σ 195 9 ≠ -1))) ∧ σ = σ') := by
  unfold kXM
  repeat refine kX_one rfl ?_
  refine kX_if (fun q => ?_) (fun q => ?_)
  · have q : σ 195 9 = -1 := qeq q
    repeat refine kX_one rfl ?_
    refine kX_ret (i := .ireturn) (len := 1) rfl (Or.inr rfl) rfl (⟨rF (fun z => z q), rfl⟩)
  · have q : σ 195 9 ≠ -1 := qeqF q
    repeat refine kX_one rfl ?_
    refine kX_ret (i := .ireturn) (len := 1) rfl (Or.inr rfl) rfl (⟨rT q, rfl⟩)
set_option maxRecDepth 100000 in
set_option maxHeartbeats 4000000 in
theorem mk_found (L : Nat) (xs : Nat → Int32) (d : Nat) (σ : kS) (n R S C : Nat) (x : Int32) (h : cJ σ n R S C) : kXM kT L xs (d + 2) 133 [.ref 0, .int x] σ (fun r σ' => (∃ x, r = some (.int x)) ∧ cAfter σ σ' R) := by
  unfold kXM
  by_cases hy : ∃ k, k < 4 ∧ x = nI k
  · obtain ⟨k, hk, rfl⟩ := hy
    have : k = 0 ∨ k = 1 ∨ k = 2 ∨ k = 3 := by omega
    rcases this with rfl | rfl | rfl | rfl
    · repeat refine kX_one rfl ?_
      refine kX_ret (i := .ireturn) (len := 1) rfl (Or.inr rfl) rfl (⟨⟨_, rfl⟩, cAfter_same h⟩)
    · repeat refine kX_one rfl ?_
      refine kX_ret (i := .ireturn) (len := 1) rfl (Or.inr rfl) rfl (⟨⟨_, rfl⟩, cAfter_same h⟩)
    · repeat refine kX_one rfl ?_
      refine kX_cal (mc_hasAttack L xs d σ) rfl (Or.inr rfl) rfl rfl rfl (fun r1 σ1 q1 => ?_)
      obtain ⟨rfl, rfl⟩ := q1
      repeat refine kX_one rfl ?_
      refine kX_if (fun q => ?_) (fun q => ?_)
      · repeat refine kX_one rfl ?_
        refine kX_ret (i := .ireturn) (len := 1) rfl (Or.inr rfl) rfl (⟨⟨_, rfl⟩, cAfter_same h⟩)
      · repeat refine kX_one rfl ?_
        refine kX_ret (i := .ireturn) (len := 1) rfl (Or.inr rfl) rfl (⟨⟨_, rfl⟩, cAfter_same h⟩)
    · repeat refine kX_one rfl ?_
      refine kX_ret (i := .ireturn) (len := 1) rfl (Or.inr rfl) rfl (⟨⟨_, rfl⟩, cAfter_same h⟩)
  · iterate 1 (refine kX_one rfl ?_)
    refine kX_tabO rfl (kp_out 4 (fun k hk e => hy ⟨k, hk, e⟩) (by decide)) rfl ?_
    repeat refine kX_one rfl ?_
    refine kX_ret (i := .ireturn) (len := 1) rfl (Or.inr rfl) rfl (⟨⟨_, rfl⟩, cAfter_same h⟩)
set_option maxRecDepth 100000 in
set_option maxHeartbeats 4000000 in
theorem mk_told (L : Nat) (xs : Nat → Int32) (d : Nat) (σ : kS) (n R S C : Nat) (x : Int32) (h : cJ σ n R S C) : kXM kT L xs (d + 1) 136 [.ref 0, .int x] σ (fun r σ' => (∃ x, r = some (.int x)) ∧ cAfter σ σ' R) := by
  unfold kXM
  by_cases hy : ∃ k, k < 6 ∧ x = nI k
  · obtain ⟨k, hk, rfl⟩ := hy
    have : k = 0 ∨ k = 1 ∨ k = 2 ∨ k = 3 ∨ k = 4 ∨ k = 5 := by omega
    rcases this with rfl | rfl | rfl | rfl | rfl | rfl
    · repeat' first | refine kX_one rfl ?_ | refine kX_if (fun q => ?_) (fun q => ?_)
      all_goals refine kX_ret (i := .ireturn) (len := 1) rfl (Or.inr rfl) rfl (⟨⟨_, rfl⟩, cAfter_same h⟩)
    · repeat' first | refine kX_one rfl ?_ | refine kX_if (fun q => ?_) (fun q => ?_)
      all_goals refine kX_ret (i := .ireturn) (len := 1) rfl (Or.inr rfl) rfl (⟨⟨_, rfl⟩, cAfter_same h⟩)
    · repeat' first | refine kX_one rfl ?_ | refine kX_if (fun q => ?_) (fun q => ?_)
      all_goals refine kX_ret (i := .ireturn) (len := 1) rfl (Or.inr rfl) rfl (⟨⟨_, rfl⟩, cAfter_same h⟩)
    · repeat' first | refine kX_one rfl ?_ | refine kX_if (fun q => ?_) (fun q => ?_)
      all_goals refine kX_ret (i := .ireturn) (len := 1) rfl (Or.inr rfl) rfl (⟨⟨_, rfl⟩, cAfter_same h⟩)
    · repeat' first | refine kX_one rfl ?_ | refine kX_if (fun q => ?_) (fun q => ?_)
      all_goals refine kX_ret (i := .ireturn) (len := 1) rfl (Or.inr rfl) rfl (⟨⟨_, rfl⟩, cAfter_same h⟩)
    · repeat' first | refine kX_one rfl ?_ | refine kX_if (fun q => ?_) (fun q => ?_)
      all_goals refine kX_ret (i := .ireturn) (len := 1) rfl (Or.inr rfl) rfl (⟨⟨_, rfl⟩, cAfter_same h⟩)
  · iterate 1 (refine kX_one rfl ?_)
    refine kX_tabO rfl (kp_out 6 (fun k hk e => hy ⟨k, hk, e⟩) (by decide)) rfl ?_
    repeat refine kX_one rfl ?_
    refine kX_ret (i := .ireturn) (len := 1) rfl (Or.inr rfl) rfl (⟨⟨_, rfl⟩, cAfter_same h⟩)
set_option maxRecDepth 100000 in
set_option maxHeartbeats 4000000 in
theorem mk_attack (L : Nat) (xs : Nat → Int32) (d : Nat) (σ : kS) (n R S C : Nat) (x : Int32) (h : cJ σ n R S C) : kXM kT L xs (d + 2) 134 [.ref 0, .int x] σ (fun r σ' => (∃ x, r = some (.int x)) ∧ cAfter σ σ' R) := by
  obtain ⟨N, -, -, -, -, hl⟩ := h.2.2.2.2.2.2.2.2.2.1
  unfold kXM
  iterate 2 (refine kX_one rfl ?_)
  refine kX_cal (mc_hasAttack L xs d σ) rfl (Or.inr rfl) rfl rfl rfl (fun r1 σ1 q1 => ?_)
  obtain ⟨rfl, rfl⟩ := q1
  have k37 : kX kT L xs (d + 2) 134 37 (lv_args 0 [.ref 0, .int x]) [] σ (fun r σ' => (∃ x, r = some (.int x)) ∧ cAfter σ σ' R) := by
    repeat refine kX_one rfl ?_
    refine kX_ret (i := .ireturn) (len := 1) rfl (Or.inr rfl) rfl (⟨⟨_, rfl⟩, cAfter_same h⟩)
  repeat refine kX_one rfl ?_
  refine kX_if (fun q => ?_) (fun q => ?_)
  · exact k37
  · have q := isB_ne.mp (qeqF q)
    rcases hl with hl | ⟨-, ln, l1, l2, -⟩
    · exact absurd hl q
    · repeat refine kX_one rfl ?_
      refine kX_if (fun q2 => ?_) (fun q2 => ?_)
      · exact k37
      · have q2 : ¬ x < 0 := of_decide_eq_false q2
        obtain ⟨k, hk, rfl⟩ := nI_of q2
        iterate 4 (refine kX_one rfl ?_)
        refine kX_top (l2) ?_
        repeat refine kX_one rfl ?_
        refine kX_if (fun q3 => ?_) (fun q3 => ?_)
        · exact k37
        · have q3 := qgeF q3 k ln
          iterate 4 (refine kX_one rfl ?_)
          refine kX_ialdN rfl rfl (by decide) (k) (by first | rfl | decide) (by omega) ?_
          repeat refine kX_one rfl ?_
          refine kX_ret (i := .ireturn) (len := 1) rfl (Or.inr rfl) rfl (⟨⟨_, rfl⟩, cAfter_same h⟩)
theorem cHi_run {σ τ : kS} (e : ∀ c, c < 181 ∨ 186 ≤ c → τ c = σ c) : cHi σ τ := fun c hc => e c (by omega)
set_option maxRecDepth 100000 in
set_option maxHeartbeats 4000000 in
theorem mk_end (L : Nat) (xs : Nat → Int32) (d : Nat) (σ : kS) (n R S C : Nat) (h : cJ σ n R S C) : kXM kT L xs (d + 1) 123 [.ref 0] σ (fun r σ' => (∃ x, r = some (.int x)) ∧ cAfter σ σ' R) := by
  have e : ∀ c, c < 181 ∨ 186 ≤ c → va_up σ 181 (upd (σ 181) 8 (Int32.ofInt 0)) c = σ c := fun c hc => by
    unfold va_up
    rw [if_neg (by omega)]
  unfold kXM
  repeat refine kX_one rfl ?_
  refine kX_if (fun q => ?_) (fun q => ?_)
  · repeat refine kX_one rfl ?_
    refine kX_ret (i := .ireturn) (len := 1) rfl (Or.inr rfl) rfl (⟨⟨_, rfl⟩, cHi_run e, n, S, C, cJ_run h e (Or.inl rfl)⟩)
  · repeat refine kX_one rfl ?_
    refine kX_ret (i := .ireturn) (len := 1) rfl (Or.inr rfl) rfl (⟨⟨_, rfl⟩, cAfter_same h⟩)
set_option maxRecDepth 100000 in
set_option maxHeartbeats 4000000 in
theorem mc_runStart (L : Nat) (xs : Nat → Int32) (d : Nat) (σ : kS) (n R S C : Nat) (h : cJ σ n R S C) : kXM kT L xs (d + 1) 66 [.ref 181] σ (fun r σ' => r = none ∧ cHi σ σ' ∧ cJ σ' n R S C ∧ σ' 181 8 = 1 ∧ ∀ c, c < 181 ∨ 186 ≤ c → σ' c = σ c) := by
  unfold kXM
  repeat refine kX_one rfl ?_
  have e : ∀ c, c < 181 ∨ 186 ≤ c → va_up (va_up σ 181 (upd (upd (upd (σ 181) 8 (Int32.ofInt 1)) 7 (Int32.ofInt 0)) 9 (Int32.ofInt (-1)))) 182 (va_cpy (σ 17) (σ 182) 0 0 28) c = σ c := fun c hc => by
    unfold va_up
    rw [if_neg (by omega), if_neg (by omega)]
  refine kX_st (va_up (va_up σ 181 (upd (upd (upd (σ 181) 8 (Int32.ofInt 1)) 7 (Int32.ofInt 0)) 9 (Int32.ofInt (-1)))) 182 (va_cpy (σ 17) (σ 182) 0 0 28)) ?_ ?_
  · funext c; unfold  va_up; repeat' split
    all_goals first | rfl | omega | (subst_vars; rfl) | (funext j; unfold upd; repeat' split; all_goals first | rfl | omega | (subst_vars; rfl))
  refine kX_ret (i := .return_) (len := 1) rfl (Or.inr rfl) rfl ⟨rfl, cHi_run e, cJ_run h e (Or.inr ⟨rfl, ⟨0, by omega, rfl, fun i hi => absurd hi (Nat.not_lt_zero i)⟩, ?_, Or.inl rfl⟩), rfl, e⟩
  intro s k hs hk
  have hS4 := h.2.2.1.1
  have := h.2.2.1.2.2.2 s k hs hk
  show va_cpy (σ 17) (σ 182) 0 0 28 (0 + 7 * s + 1 + k) = -1 ∨ ∃ z, z < n ∧ va_cpy (σ 17) (σ 182) 0 0 28 (0 + 7 * s + 1 + k) = nI z ∧ σ 8 z = 1
  have e2 : va_cpy (σ 17) (σ 182) 0 0 28 (0 + 7 * s + 1 + k) = σ 17 (0 + 7 * s + 1 + k) := by
    unfold va_cpy
    rw [if_pos (by omega)]
    congr 1
    omega
  rw [e2]
  exact this
set_option maxRecDepth 100000 in
set_option maxHeartbeats 4000000 in
theorem mk_begin (L : Nat) (xs : Nat → Int32) (d : Nat) (σ : kS) (n R S C : Nat) (h : cJ σ n R S C) : kXM kT L xs (d + 2) 122 [.ref 0] σ (fun r σ' => (∃ x, r = some (.int x)) ∧ cAfter σ σ' R) := by
  unfold kXM
  iterate 2 (refine kX_one rfl ?_)
  refine kX_cal (mc_runStart L xs d σ n R S C h) rfl (Or.inr rfl) rfl rfl rfl (fun r1 σ1 q1 => ?_)
  obtain ⟨rfl, h1, h2, -⟩ := q1
  repeat refine kX_one rfl ?_
  refine kX_ret (i := .ireturn) (len := 1) rfl (Or.inr rfl) rfl (⟨⟨_, rfl⟩, h1, n, S, C, h2⟩)
theorem ix7 (base s : Nat) : nI base + nI s * (Int8.ofInt 7).toInt32 = nI (base + s * 7) := by
  rw [show (Int8.ofInt 7).toInt32 = nI 7 from rfl, pk_mul, nI_add]
theorem ix7v (base s k : Nat) : nI base + nI s * (Int8.ofInt 7).toInt32 + Int32.ofInt 1 + nI k = nI (base + 7 * s + 1 + k) := by
  rw [ix7, show Int32.ofInt 1 = nI 1 from rfl, nI_add, nI_add, Nat.mul_comm s 7]
set_option maxRecDepth 100000 in
set_option maxHeartbeats 4000000 in
theorem mc_doneBy (L : Nat) (xs : Nat → Int32) (d : Nat) (σ : kS) (a m base s : Nat) (g0 : Nat → Int32) (ha : kT[a]? = some (.inl (0, m, .inl g0))) (hm : m ≤ 100000) (hb : base + 7 * s < m) : kXM kT L xs (d + 1) 16 [.ref 13, .ref a, .int (nI base), .int (nI s)] σ (fun r σ' => r = some (.int (σ a (base + 7 * s))) ∧ σ = σ') := by
  unfold kXM
  iterate 6 (refine kX_one rfl ?_)
  refine kX_ialdN rfl ha hm (base + s * 7) (ix7 base s) (by omega) ?_
  refine kX_ret (i := .ireturn) (len := 1) rfl (Or.inr rfl) rfl (⟨by rw [Nat.mul_comm s 7], rfl⟩)
set_option maxRecDepth 100000 in
set_option maxHeartbeats 4000000 in
theorem mc_valueOf (L : Nat) (xs : Nat → Int32) (d : Nat) (σ : kS) (a m base s k : Nat) (g0 : Nat → Int32) (ha : kT[a]? = some (.inl (0, m, .inl g0))) (hm : m ≤ 100000) (hb : base + 7 * s + 1 + k < m) : kXM kT L xs (d + 1) 17 [.ref 13, .ref a, .int (nI base), .int (nI s), .int (nI k)] σ (fun r σ' => r = some (.int (σ a (base + 7 * s + 1 + k))) ∧ σ = σ') := by
  unfold kXM
  iterate 10 (refine kX_one rfl ?_)
  refine kX_ialdN rfl ha hm (base + 7 * s + 1 + k) (ix7v base s k) hb ?_
  refine kX_ret (i := .ireturn) (len := 1) rfl (Or.inr rfl) rfl (⟨rfl, rfl⟩)
set_option maxRecDepth 100000 in
set_option maxHeartbeats 4000000 in
theorem mk_done (L : Nat) (xs : Nat → Int32) (d : Nat) (σ : kS) (n R S C : Nat) (x : Int32) (h : cJ σ n R S C) : kXM kT L xs (d + 2) 129 [.ref 0, .int x] σ (fun r σ' => (∃ x, r = some (.int x)) ∧ cAfter σ σ' R) := by
  have hS := h.2.2.1
  have hS4 := hS.1
  unfold kXM
  iterate 3 (refine kX_one rfl ?_)
  refine kX_cal (mc_hasSession L xs d σ S x hS4 hS.2.1) rfl (Or.inr rfl) rfl rfl rfl (fun r1 σ1 q1 => ?_)
  obtain ⟨rfl, rfl⟩ := q1
  repeat refine kX_one rfl ?_
  refine kX_if (fun q => ?_) (fun q => ?_)
  · obtain ⟨s, hs, rfl⟩ := isB_ne.mp (qne q)
    repeat refine kX_one rfl ?_
    refine kX_if (fun q2 => ?_) (fun q2 => ?_)
    · repeat refine kX_one rfl ?_
      refine kX_ret (i := .ireturn) (len := 1) rfl (Or.inr rfl) rfl (⟨⟨_, rfl⟩, cAfter_same h⟩)
    · repeat refine kX_one rfl ?_
      refine kX_cal (mc_doneBy L xs d σ 182 28 0 s (fun _ => 0) rfl (by decide) (by omega)) rfl (Or.inr rfl) rfl rfl rfl (fun r1 σ1 q1 => ?_)
      obtain ⟨rfl, rfl⟩ := q1
      repeat refine kX_one rfl ?_
      refine kX_ret (i := .ireturn) (len := 1) rfl (Or.inr rfl) rfl (⟨⟨_, rfl⟩, cAfter_same h⟩)
  · repeat refine kX_one rfl ?_
    refine kX_ret (i := .ireturn) (len := 1) rfl (Or.inr rfl) rfl (⟨⟨_, rfl⟩, cAfter_same h⟩)
set_option maxRecDepth 100000 in
set_option maxHeartbeats 4000000 in
theorem mk_stands (L : Nat) (xs : Nat → Int32) (d : Nat) (σ : kS) (n R S C : Nat) (x y : Int32) (h : cJ σ n R S C) : kXM kT L xs (d + 3) 128 [.ref 0, .int x, .int y] σ (fun r σ' => (∃ x, r = some (.int x)) ∧ cAfter σ σ' R) := by
  have hS := h.2.2.1
  have hS4 := hS.1
  unfold kXM
  iterate 3 (refine kX_one rfl ?_)
  refine kX_cal (mc_hasSession L xs (d + 1) σ S x hS4 hS.2.1) rfl (Or.inr rfl) rfl rfl rfl (fun r1 σ1 q1 => ?_)
  obtain ⟨rfl, rfl⟩ := q1
  repeat refine kX_one rfl ?_
  refine kX_if (fun q => ?_) (fun q => ?_)
  · repeat refine kX_one rfl ?_
    refine kX_ret (i := .ireturn) (len := 1) rfl (Or.inr rfl) rfl (⟨⟨_, rfl⟩, cAfter_same h⟩)
  · obtain ⟨s, hs, rfl⟩ := isB_ne.mp (qeqF q)
    iterate 6 (refine kX_one rfl ?_)
    refine kX_ialdN rfl rfl (by decide) (s) (by first | rfl | decide) (by omega) ?_
    iterate 1 (refine kX_one rfl ?_)
    refine kX_cal (mc_hasVariable L xs d σ n R _ y h.2.1) rfl (Or.inr rfl) rfl rfl rfl (fun r1 σ1 q1 => ?_)
    obtain ⟨rfl, rfl⟩ := q1
    repeat refine kX_one rfl ?_
    refine kX_if (fun q2 => ?_) (fun q2 => ?_)
    · obtain ⟨ro, v, -, -, v6, rfl, -⟩ := isB_ne.mp (qne q2)
      repeat refine kX_one rfl ?_
      refine kX_if (fun q3 => ?_) (fun q3 => ?_)
      · repeat refine kX_one rfl ?_
        refine kX_cal (mc_valueOf L xs (d + 1) σ 182 28 0 s v (fun _ => 0) rfl (by decide) (by omega)) rfl (Or.inr rfl) rfl rfl rfl (fun r1 σ1 q1 => ?_)
        obtain ⟨rfl, rfl⟩ := q1
        refine kX_cal (mc_orNone L xs (d + 1) σ _) rfl (Or.inr rfl) rfl rfl rfl (fun r1 σ1 q1 => ?_)
        obtain ⟨rfl, rfl⟩ := q1
        refine kX_ret (i := .ireturn) (len := 1) rfl (Or.inr rfl) rfl (⟨⟨_, rfl⟩, cAfter_same h⟩)
      · repeat refine kX_one rfl ?_
        refine kX_ret (i := .ireturn) (len := 1) rfl (Or.inr rfl) rfl (⟨⟨_, rfl⟩, cAfter_same h⟩)
    · repeat refine kX_one rfl ?_
      refine kX_ret (i := .ireturn) (len := 1) rfl (Or.inr rfl) rfl (⟨⟨_, rfl⟩, cAfter_same h⟩)
end
section
/-! the class: forget, clear, VARIABLES, CLAIMS -/
/-- cells of the search -/
theorem cJ_sr {σ τ : kS} {n R S C : Nat} (h : cJ σ n R S C) (e : ∀ c, c ≠ 195 → c ≠ 196 → c ≠ 201 → τ c = σ c) (hr : cSr τ n S) : cJ τ n R S C := by
  obtain ⟨h1, h2, h3, h4, h5, h6, h7, h8, h9, h10, h11⟩ := h
  have hg : ∀ z, z < n → τ 8 z = σ 8 z := fun z _ => by rw [e _ (by decide) (by decide) (by decide)]
  have hgt : ∀ g, 200 ≤ g → τ 2 g = σ 2 g ∧ τ 3 g = σ 3 g ∧ τ 4 g = σ 4 g ∧ τ 6 g = σ 6 g := fun g _ => by
    rw [e 2 (by decide) (by decide) (by decide), e 3 (by decide) (by decide) (by decide), e 4 (by decide) (by decide) (by decide), e 6 (by decide) (by decide) (by decide)]
    exact ⟨rfl, rfl, rfl, rfl⟩
  refine ⟨cT_eq (by rw [e 1 (by decide) (by decide) (by decide)]) (e _ (by decide) (by decide) (by decide)) (fun u _ => ?_) h1, cRo_gr (Nat.le_refl _) (fun c c1 c2 => e c (by omega) (by omega) (by omega)) h2, cSe_eq hg (by rw [e 13 (by decide) (by decide) (by decide)]) (e _ (by decide) (by decide) (by decide)) (e _ (by decide) (by decide) (by decide)) h3, cCl_eq (by rw [e 13 (by decide) (by decide) (by decide)]) (fun c c1 c2 => e c (by omega) (by omega) (by omega)) h4, cKn_eq (by rw [e 13 (by decide) (by decide) (by decide)]) h5, cKw_eq (by decide) (e _ (by decide) (by decide) (by decide)) (e _ (by decide) (by decide) (by decide)) (e _ (by decide) (by decide) (by decide)) hgt h6, cKw_eq (by decide) (e _ (by decide) (by decide) (by decide)) (e _ (by decide) (by decide) (by decide)) (e _ (by decide) (by decide) (by decide)) hgt h7, cKw_eq (by decide) (e _ (by decide) (by decide) (by decide)) (e _ (by decide) (by decide) (by decide)) (e _ (by decide) (by decide) (by decide)) hgt h8, cRu_eq hg (e _ (by decide) (by decide) (by decide)) (e _ (by decide) (by decide) (by decide)) (e _ (by decide) (by decide) (by decide)) (by rw [e 186 (by decide) (by decide) (by decide)]) (fun g g1 _ => ⟨(hgt g g1).2.1, (hgt g g1).2.2.1⟩) h9, hr, cQ_eq (e _ (by decide) (by decide) (by decide)) (e _ (by decide) (by decide) (by decide)) h11⟩
  rw [e 2 (by decide) (by decide) (by decide), e 3 (by decide) (by decide) (by decide), e 4 (by decide) (by decide) (by decide), e 8 (by decide) (by decide) (by decide), e 12 (by decide) (by decide) (by decide), e 6 (by decide) (by decide) (by decide)]
  exact ⟨rfl, rfl, rfl, rfl, rfl, rfl⟩
set_option maxRecDepth 100000 in
set_option maxHeartbeats 4000000 in
theorem mc_forget (L : Nat) (xs : Nat → Int32) (d : Nat) (σ : kS) : kXM kT L xs (d + 3) 79 [.ref 195] σ (fun r σ' => r = none ∧ σ' 196 5 = 0 ∧ σ' 195 9 = -1 ∧ σ' 195 10 = 0 ∧ σ' 195 12 = 0 ∧ ∀ c, c ≠ 195 → c ≠ 196 → c ≠ 201 → σ' c = σ c) := by
  unfold kXM
  iterate 2 (refine kX_one rfl ?_)
  have hem : kXM kT L xs (d + 2) 87 [.ref 196] σ (fun r σ' => r = none ∧ σ' 196 5 = 0 ∧ σ' 195 = σ 195 ∧ ∀ c, c ≠ 196 → c ≠ 201 → σ' c = σ c) := by
    unfold kXM
    iterate 6 (refine kX_one rfl ?_)
    refine kX_cal (kX_fill (T := kT) L xs d (-1) _ (a := 201) (n := 1024) (g0 := fun _ => 0) rfl (by decide)) rfl (Or.inr rfl) rfl rfl rfl (fun r1 σ1 q1 => ?_)
    obtain ⟨rfl, rfl⟩ := q1
    refine kX_ret (i := .return_) (len := 1) rfl (Or.inr rfl) rfl ⟨rfl, rfl, rfl, fun c c1 c2 => ?_⟩
    unfold va_up
    rw [if_neg c2, if_neg c1]
  refine kX_cal hem rfl (Or.inr rfl) rfl rfl rfl (fun r1 ρ q1 => ?_)
  obtain ⟨rfl, g1, g2, g3⟩ := q1
  repeat refine kX_one rfl ?_
  refine kX_ret (i := .return_) (len := 1) rfl (Or.inr rfl) rfl ⟨rfl, g1, rfl, rfl, rfl, fun c c1 c2 c3 => ?_⟩
  unfold va_up
  rw [if_neg c1, if_neg c1, if_neg c1, if_neg c1]
  exact g3 c c2 c3
theorem cSr_0 {τ : kS} {n S : Nat} (h1 : τ 196 5 = 0) (h2 : τ 195 9 = -1) : cSr τ n S := ⟨0, by omega, h1, fun i hi => absurd hi (Nat.not_lt_zero i), fun i _ hi => absurd hi (Nat.not_lt_zero i), Or.inl h2⟩
set_option maxRecDepth 100000 in
set_option maxHeartbeats 4000000 in
theorem mk_clear (L : Nat) (xs : Nat → Int32) (d : Nat) (σ : kS) (n R S C : Nat) (h : cJ σ n R S C) : kXM kT L xs (d + 4) 138 [.ref 0] σ (fun r σ' => (∃ x, r = some (.int x)) ∧ cAfter σ σ' 0) := by
  obtain ⟨h1, h2, h3, h4, h5, h6, h7, h8, h9, h10, h11⟩ := h
  unfold kXM
  iterate 10 (refine kX_one rfl ?_)
  refine kX_cal (mc_forget L xs d _) rfl (Or.inr rfl) rfl rfl rfl (fun r1 ρ q1 => ?_)
  obtain ⟨rfl, g1, g2, -, -, g3⟩ := q1
  have hoth : ∀ c, c ≠ 181 → c ≠ 195 → c ≠ 196 → c ≠ 201 → ρ c = σ c := fun c c0 c1 c2 c3 => by
    rw [g3 c c1 c2 c3]
    unfold va_up
    rw [if_neg c0]
  have hon : ρ 181 8 = 0 := by
    rw [g3 181 (by decide) (by decide) (by decide)]
    rfl
  iterate 2 (refine kX_one rfl ?_)
  have hbe : kXM kT L xs (d + 3) 2 [.ref 13] ρ (fun r σ' => r = none ∧ σ' = va_up ρ 13 (upd (upd (upd (upd (ρ 13) 2 0) 6 0) 8 0) 10 0)) := by
    unfold kXM
    repeat refine kX_one rfl ?_
    refine kX_ret (i := .return_) (len := 1) rfl (Or.inr rfl) rfl ⟨rfl, ?_⟩
    funext c; unfold  va_up; repeat' split
    all_goals first | rfl | omega | (subst_vars; rfl) | (funext j; unfold upd; repeat' split; all_goals first | rfl | omega | (subst_vars; rfl))
  refine kX_cal hbe rfl (Or.inr rfl) rfl rfl rfl (fun r1 ρ2 q1 => ?_)
  obtain ⟨rfl, rfl⟩ := q1
  iterate 2 (refine kX_one rfl ?_)
  have hte : kXM kT L xs (d + 3) 93 [.ref 1] (va_up ρ 13 (upd (upd (upd (upd (ρ 13) 2 0) 6 0) 8 0) 10 0)) (fun r σ' => r = none ∧ (∀ s, s < 256 → σ' 7 s = -1) ∧ σ' 1 11 = 0 ∧ σ' 13 2 = 0 ∧ σ' 13 6 = 0 ∧ σ' 13 8 = 0 ∧ σ' 13 10 = 0 ∧ ∀ c, c ≠ 13 → c ≠ 1 → c ≠ 7 → σ' c = ρ c) := by
    unfold kXM
    iterate 6 (refine kX_one rfl ?_)
    refine kX_cal (kX_fill (T := kT) L xs (d + 1) (-1) _ (a := 7) (n := 256) (g0 := fun _ => 0) rfl (by decide)) rfl (Or.inr rfl) rfl rfl rfl (fun r1 σ1 q1 => ?_)
    obtain ⟨rfl, rfl⟩ := q1
    refine kX_ret (i := .return_) (len := 1) rfl (Or.inr rfl) rfl ⟨rfl, fun s hs => ?_, rfl, rfl, rfl, rfl, rfl, fun c c1 c2 c3 => ?_⟩
    · exact if_pos hs
    · unfold va_up
      rw [if_neg c3, if_neg c2, if_neg c1]
  refine kX_cal hte rfl (Or.inr rfl) rfl rfl rfl (fun r1 τ q1 => ?_)
  obtain ⟨rfl, t1, t2, t3, t4, t5, t6, t7⟩ := q1
  have hall : ∀ c, c ≠ 13 → c ≠ 1 → c ≠ 7 → c ≠ 181 → c ≠ 195 → c ≠ 196 → c ≠ 201 → τ c = σ c := fun c c1 c2 c3 c4 c5 c6 c7 => (t7 c c1 c2 c3).trans (hoth c c4 c5 c6 c7)
  have hk : ∀ c, 186 ≤ c → c ≠ 195 → c ≠ 196 → c ≠ 201 → τ c = σ c := fun c c0 c1 c2 c3 => hall c (by omega) (by omega) (by omega) (by omega) c1 c2 c3
  have hgt : ∀ g, 200 ≤ g → τ 2 g = σ 2 g ∧ τ 3 g = σ 3 g ∧ τ 4 g = σ 4 g ∧ τ 6 g = σ 6 g := fun g _ => by
    rw [hall 2 (by decide) (by decide) (by decide) (by decide) (by decide) (by decide) (by decide), hall 3 (by decide) (by decide) (by decide) (by decide) (by decide) (by decide) (by decide), hall 4 (by decide) (by decide) (by decide) (by decide) (by decide) (by decide) (by decide), hall 6 (by decide) (by decide) (by decide) (by decide) (by decide) (by decide) (by decide)]
    exact ⟨rfl, rfl, rfl, rfl⟩
  repeat refine kX_one rfl ?_
  refine kX_ret (i := .ireturn) (len := 1) rfl (Or.inr rfl) rfl ⟨⟨_, rfl⟩, fun c hc => hk c (by omega) (by omega) (by omega) (by omega), 0, 0, 0, ⟨by omega, t2, fun s hs => Or.inl (t1 s hs), fun t ht => absurd ht (Nat.not_lt_zero t)⟩, ⟨by omega, t3, fun r hr => absurd hr (Nat.not_lt_zero r)⟩, ⟨by omega, t4, fun s hs => absurd hs (Nat.not_lt_zero s), fun s k hs => absurd hs (Nat.not_lt_zero s)⟩, ⟨by omega, t5, fun c hc => absurd hc (Nat.not_lt_zero c)⟩, ⟨0, by omega, t6⟩, cKw_eq (by decide) (hk _ (by decide) (by decide) (by decide) (by decide)) (hk _ (by decide) (by decide) (by decide) (by decide)) (hk _ (by decide) (by decide) (by decide) (by decide)) hgt h6, cKw_eq (by decide) (hk _ (by decide) (by decide) (by decide) (by decide)) (hk _ (by decide) (by decide) (by decide) (by decide)) (hk _ (by decide) (by decide) (by decide) (by decide)) hgt h7, cKw_eq (by decide) (hk _ (by decide) (by decide) (by decide) (by decide)) (hk _ (by decide) (by decide) (by decide) (by decide)) (hk _ (by decide) (by decide) (by decide) (by decide)) hgt h8, Or.inl ?_, cSr_0 ?_ ?_, cQ_eq (hk _ (by decide) (by decide) (by decide) (by decide)) (hk _ (by decide) (by decide) (by decide) (by decide)) h11⟩
  · rw [t7 181 (by decide) (by decide) (by decide)]
    exact hon
  · rw [t7 196 (by decide) (by decide) (by decide)]
    exact g1
  · rw [t7 195 (by decide) (by decide) (by decide)]
    exact g2
end
section
/-! the class: variable, CLAIMS -/
set_option maxRecDepth 100000 in
set_option maxHeartbeats 4000000 in
theorem mc_maySort (L : Nat) (xs : Nat → Int32) (d : Nat) (σ : kS) (x y : Int32) : kXM kT L xs (d + 1) 141 [.int x, .int y] σ (fun r σ' => ((r = some (.int 0)) ∨ (r = some (.int 1) ∧ ∃ so, so ≤ 3 ∧ y = nI so ∧ (x = 1 → so ≤ 2))) ∧ σ = σ') := by
  unfold kXM
  by_cases hy : ∃ k, k < 3 ∧ x = nI k
  · obtain ⟨k, hk, rfl⟩ := hy
    have : k = 0 ∨ k = 1 ∨ k = 2 := by omega
    rcases this with rfl | rfl | rfl
    · repeat refine kX_one rfl ?_
      refine kX_if (fun q => ?_) (fun q => ?_)
      · repeat refine kX_one rfl ?_
        refine kX_ret (i := .ireturn) (len := 1) rfl (Or.inr rfl) rfl (⟨Or.inl rfl, rfl⟩)
      · have q : y = 0 := qneF q
        repeat refine kX_one rfl ?_
        refine kX_ret (i := .ireturn) (len := 1) rfl (Or.inr rfl) rfl (⟨Or.inr ⟨rfl, 0, by omega, q, fun _ => by omega⟩, rfl⟩)
    · repeat refine kX_one rfl ?_
      refine kX_if (fun q => ?_) (fun q => ?_)
      · have q : y = 1 := qeq q
        repeat refine kX_one rfl ?_
        refine kX_ret (i := .ireturn) (len := 1) rfl (Or.inr rfl) rfl (⟨Or.inr ⟨rfl, 1, by omega, q, fun _ => by omega⟩, rfl⟩)
      · repeat refine kX_one rfl ?_
        refine kX_if (fun q2 => ?_) (fun q2 => ?_)
        · repeat refine kX_one rfl ?_
          refine kX_ret (i := .ireturn) (len := 1) rfl (Or.inr rfl) rfl (⟨Or.inl rfl, rfl⟩)
        · have q2 : y = 2 := qneF q2
          repeat refine kX_one rfl ?_
          refine kX_ret (i := .ireturn) (len := 1) rfl (Or.inr rfl) rfl (⟨Or.inr ⟨rfl, 2, by omega, q2, fun _ => by omega⟩, rfl⟩)
    · repeat refine kX_one rfl ?_
      refine kX_if (fun q => ?_) (fun q => ?_)
      · repeat refine kX_one rfl ?_
        refine kX_ret (i := .ireturn) (len := 1) rfl (Or.inr rfl) rfl (⟨Or.inl rfl, rfl⟩)
      · have q : ¬ y < 0 := of_decide_eq_false q
        obtain ⟨so, hso, rfl⟩ := nI_of q
        repeat refine kX_one rfl ?_
        refine kX_if (fun q2 => ?_) (fun q2 => ?_)
        · repeat refine kX_one rfl ?_
          refine kX_ret (i := .ireturn) (len := 1) rfl (Or.inr rfl) rfl (⟨Or.inl rfl, rfl⟩)
        · have q2 := qgtF q2 so 3
          repeat refine kX_one rfl ?_
          refine kX_ret (i := .ireturn) (len := 1) rfl (Or.inr rfl) rfl (⟨Or.inr ⟨rfl, so, q2, rfl, fun z => absurd z (by decide)⟩, rfl⟩)
  · iterate 1 (refine kX_one rfl ?_)
    refine kX_tabO rfl (kp_out 3 (fun k hk e => hy ⟨k, hk, e⟩) (by decide)) rfl ?_
    repeat refine kX_one rfl ?_
    refine kX_ret (i := .ireturn) (len := 1) rfl (Or.inr rfl) rfl (⟨Or.inl rfl, rfl⟩)
def teS (σ : kS) (r v : Nat) (x y : Int32) : kS := va_up (va_up (va_up (va_up σ (24 + 35 * r) (upd (σ (24 + 35 * r)) v x)) (25 + 35 * r) (upd (σ (25 + 35 * r)) v y)) (26 + 35 * r) (upd (σ (26 + 35 * r)) v 0)) (23 + 35 * r) (upd (σ (23 + 35 * r)) 3 (nI (v + 1)))
theorem up_ne {σ : kS} {a c : Nat} {f : Nat → Int32} (h : c ≠ a) : va_up σ a f c = σ c := by
  unfold va_up
  rw [if_neg h]
theorem up_eq {σ : kS} {a : Nat} {f : Nat → Int32} : va_up σ a f a = f := by
  unfold va_up
  rw [if_pos rfl]
set_option maxRecDepth 100000 in
set_option maxHeartbeats 4000000 in
theorem mc_tell (L : Nat) (xs : Nat → Int32) (d : Nat) (σ : kS) (r v : Nat) (x y : Int32) (hr : r < 4) (hv : v < 6) (h : σ (23 + 35 * r) 3 = nI v) : kXM kT L xs (d + 1) 61 [.ref (23 + 35 * r), .int x, .int y] σ (fun q σ' => q = none ∧ σ' = teS σ r v x y) := by
  unfold kXM
  iterate 1 (refine kX_one rfl ?_)
  refine kX_getN rfl rfl (kT_ro hr) rfl ?_
  refine kX_top (h) ?_
  iterate 1 (refine kX_one rfl ?_)
  repeat refine kX_one rfl ?_
  refine kX_if (fun q => ?_) (fun q => ?_)
  · have q := qge q v 6
    omega
  · iterate 1 (refine kX_one rfl ?_)
    refine kX_getN rfl rfl (kT_ro hr) rfl ?_
    iterate 1 (refine kX_one rfl ?_)
    refine kX_getN rfl rfl (kT_ro hr) rfl ?_
    refine kX_top (h) ?_
    iterate 1 (refine kX_one rfl ?_)
    refine kX_iastN rfl (kT_ra hr) (by decide) (v) (by first | rfl | decide) (hv) ?_
    iterate 1 (refine kX_one rfl ?_)
    refine kX_getN rfl rfl (kT_ro hr) rfl ?_
    iterate 1 (refine kX_one rfl ?_)
    refine kX_getN rfl rfl (kT_ro hr) rfl ?_
    refine kX_top (y := nI v) (by rw [up_ne (by omega)]; exact h) ?_
    iterate 1 (refine kX_one rfl ?_)
    refine kX_iastN rfl (kT_rs hr) (by decide) (v) (by first | rfl | decide) (hv) ?_
    iterate 1 (refine kX_one rfl ?_)
    refine kX_getN rfl rfl (kT_ro hr) rfl ?_
    iterate 1 (refine kX_one rfl ?_)
    refine kX_getN rfl rfl (kT_ro hr) rfl ?_
    refine kX_top (y := nI v) (by rw [up_ne (by omega), up_ne (by omega)]; exact h) ?_
    iterate 1 (refine kX_one rfl ?_)
    refine kX_bastN rfl (kT_rr hr) (by decide) (v) (by first | rfl | decide) (hv) (Or.inl rfl) ?_
    iterate 2 (refine kX_one rfl ?_)
    refine kX_getN rfl rfl (kT_ro hr) rfl ?_
    refine kX_top (y := nI v) (by rw [up_ne (by omega), up_ne (by omega), up_ne (by omega)]; exact h) ?_
    iterate 2 (refine kX_one rfl ?_)
    refine kX_putN rfl rfl (kT_ro hr) rfl (rfl) rfl ?_
    refine kX_ret (i := .return_) (len := 1) rfl (Or.inr rfl) rfl ⟨rfl, ?_⟩
    unfold teS
    rw [← nI_1]
    funext c
    by_cases e3 : c = 23 + 35 * r
    · subst e3
      rw [up_eq, up_eq, up_ne (by omega), up_ne (by omega), up_ne (by omega)]
      rfl
    · rw [up_ne e3, up_ne e3]
      by_cases e2 : c = 26 + 35 * r
      · subst e2
        rw [up_eq, up_eq, up_ne (by omega), up_ne (by omega)]
        rfl
      · rw [up_ne e2, up_ne e2]
        by_cases e1 : c = 25 + 35 * r
        · subst e1
          rw [up_eq, up_eq, up_ne (by omega)]
        · rw [up_ne e1, up_ne e1]
set_option maxRecDepth 100000 in
set_option maxHeartbeats 4000000 in
theorem mk_variable (L : Nat) (xs : Nat → Int32) (d : Nat) (σ : kS) (n R S C : Nat) (x y z : Int32) (h : cJ σ n R S C) : kXM kT L xs (d + 5) 115 [.ref 0, .int x, .int y, .int z] σ (fun r σ' => (∃ x, r = some (.int x)) ∧ cAfter σ σ' R) := by
  have hT := h.1
  have hn := hT.1
  have hR := h.2.1
  have hR4 := hR.1
  unfold kXM
  iterate 3 (refine kX_one rfl ?_)
  refine kX_cal (mc_hasRole L xs (d + 3) σ R x hR4 hR.2.1) rfl (Or.inr rfl) rfl rfl rfl (fun r1 σ1 q1 => ?_)
  obtain ⟨rfl, rfl⟩ := q1
  repeat refine kX_one rfl ?_
  refine kX_if (fun q => ?_) (fun q => ?_)
  · obtain ⟨r, hr, rfl⟩ := isB_ne.mp (qne q)
    have hr4 : r < 4 := by omega
    obtain ⟨v, ev, v1, e1, v2, e2, so1, ev1⟩ := hR.2.2 r hr
    iterate 2 (refine kX_one rfl ?_)
    refine kX_cal (mc_maySort L xs (d + 3) σ y z) rfl (Or.inr rfl) rfl rfl rfl (fun r1 σ1 q1 => ?_)
    obtain ⟨hq, rfl⟩ := q1
    rcases hq with rfl | ⟨rfl, so, s1, rfl, s2⟩
    · repeat refine kX_one rfl ?_
      refine kX_ret (i := .ireturn) (len := 1) rfl (Or.inr rfl) rfl (⟨⟨_, rfl⟩, cAfter_same h⟩)
    · iterate 5 (refine kX_one rfl ?_)
      refine kX_aaldN rfl (rfl) (by decide) (by decide) (by decide) (r) (by first | rfl | decide) (hr4) (ro_at hr4) ?_
      iterate 2 (refine kX_one rfl ?_)
      refine kX_getN rfl rfl (kT_ro hr4) rfl ?_
      repeat refine kX_one rfl ?_
      refine kX_if (fun q2 => ?_) (fun q2 => ?_)
      · iterate 1 (refine kX_one rfl ?_)
        refine kX_getN rfl rfl (kT_ro hr4) rfl ?_
        refine kX_top (v2) ?_
        iterate 1 (refine kX_one rfl ?_)
        repeat refine kX_one rfl ?_
        refine kX_if (fun q3 => ?_) (fun q3 => ?_)
        · repeat refine kX_one rfl ?_
          refine kX_ret (i := .ireturn) (len := 1) rfl (Or.inr rfl) rfl (⟨⟨_, rfl⟩, cAfter_same h⟩)
        · have q3 := qgeF q3 v 6
          iterate 2 (refine kX_one rfl ?_)
          refine kX_cal (mc_isFull L xs (d + 3) σ n hn hT.2.1) rfl (Or.inr rfl) rfl rfl rfl (fun r1 σ1 q1 => ?_)
          obtain ⟨rfl, rfl⟩ := q1
          repeat refine kX_one rfl ?_
          refine kX_if (fun q4 => ?_) (fun q4 => ?_)
          · have q4 : ¬ n = 200 := fun z => isB_ne.mpr z (qeq q4)
            iterate 4 (refine kX_one rfl ?_)
            refine kX_getN rfl rfl (kT_ro hr4) rfl ?_
            refine kX_top (v2) ?_
            iterate 1 (refine kX_one rfl ?_)
            refine kX_cal (mc_newVariable L xs d σ n v (nI r) (nI so) hT q3) rfl (Or.inr rfl) rfl rfl rfl (fun r1 σ1 q1 => ?_)
            rcases q1 with ⟨hh, -⟩ | ⟨hlt, rfl, g1, g2⟩
            · exact absurd hh q4
            · have h2 := cJ_gr h g2 (by omega) g1
              have ec : ∀ c, 13 ≤ c → σ1 c = σ c := fun c hc => g2.1 c (fun q => by have := tC_lt q; omega)
              have hvc : σ1 (23 + 35 * r) 3 = nI v := by
                rw [ec _ (by omega)]
                exact v2
              iterate 4 (refine kX_one rfl ?_)
              refine kX_cal (mc_tell L xs (d + 3) σ1 r v y (nI so) hr4 q3 hvc) rfl (Or.inr rfl) rfl (jcall_v rfl rfl rfl (kT_ro hr4) rfl rfl) rfl (fun r1 σ1 q1 => ?_)
              obtain ⟨rfl, rfl⟩ := q1
              have hoth : ∀ c, c < 23 + 35 * r ∨ 58 + 35 * r ≤ c → teS σ1 r v y (nI so) c = σ1 c := fun c hc => by
                unfold teS
                rw [up_ne (by omega), up_ne (by omega), up_ne (by omega), up_ne (by omega)]
              repeat refine kX_one rfl ?_
              refine kX_ret (i := .ireturn) (len := 1) rfl (Or.inr rfl) rfl ⟨⟨_, rfl⟩, cHi_trans (cGr_hi g2) (fun c hc => hoth c (by omega)), n + 1, S, C, cJ_ro h2 hr hoth ?_⟩
              refine ⟨v + 1, ev, by omega, e1, ?_, ?_, fun k hk => ?_, fun k hk => ?_⟩
              · unfold teS
                rw [up_eq]
                rfl
              · unfold teS
                rw [up_eq]
                show σ1 (23 + 35 * r) 5 = _
                rw [ec _ (by omega)]
                exact e2
              · have e25 : teS σ1 r v y (nI so) (25 + 35 * r) = upd (σ1 (25 + 35 * r)) v (nI so) := by
                  unfold teS
                  rw [up_ne (by omega), up_ne (by omega), up_eq]
                have e24 : teS σ1 r v y (nI so) (24 + 35 * r) = upd (σ1 (24 + 35 * r)) v y := by
                  unfold teS
                  rw [up_ne (by omega), up_ne (by omega), up_ne (by omega), up_eq]
                rw [e25, e24]
                by_cases e : k = v
                · subst e
                  rw [pk_us, pk_us]
                  exact ⟨so, s1, rfl, s2⟩
                · rw [pk_un e, pk_un e, ec _ (by omega), ec _ (by omega)]
                  exact so1 k (by omega)
              · refine cE_up (σ := σ) (n := n) (by omega) (fun i hi => ?_) (ev1 k hk)
                have : teS σ1 r v y (nI so) (28 + 35 * r + 5 * k + i) = σ1 (28 + 35 * r + 5 * k + i) := by
                  unfold teS
                  rw [up_ne (by omega), up_ne (by omega), up_ne (by omega), up_ne (by omega)]
                rw [this, ec _ (by omega)]
          · repeat refine kX_one rfl ?_
            refine kX_ret (i := .ireturn) (len := 1) rfl (Or.inr rfl) rfl (⟨⟨_, rfl⟩, cAfter_same h⟩)
      · repeat refine kX_one rfl ?_
        refine kX_ret (i := .ireturn) (len := 1) rfl (Or.inr rfl) rfl (⟨⟨_, rfl⟩, cAfter_same h⟩)
  · repeat refine kX_one rfl ?_
    refine kX_ret (i := .ireturn) (len := 1) rfl (Or.inr rfl) rfl (⟨⟨_, rfl⟩, cAfter_same h⟩)
/-- CLAIMS change -/
theorem cJ_cl {σ τ : kS} {n R S C C' : Nat} (h : cJ σ n R S C) (e : ∀ c, c ≠ 13 → c < 163 ∨ 181 ≤ c → τ c = σ c) (e13 : ∀ j, j ≠ 8 → τ 13 j = σ 13 j) (hc : cCl τ C') : cJ τ n R S C' := by
  obtain ⟨h1, h2, h3, h4, h5, h6, h7, h8, h9, h10, h11⟩ := h
  have el : ∀ c, c < 13 → τ c = σ c := fun c hc => e c (by omega) (by omega)
  have eh : ∀ c, 181 ≤ c → τ c = σ c := fun c hc => e c (by omega) (by omega)
  have hg : ∀ z, z < n → τ 8 z = σ 8 z := fun z _ => by rw [el _ (by decide)]
  have hgt : ∀ g, 200 ≤ g → τ 2 g = σ 2 g ∧ τ 3 g = σ 3 g ∧ τ 4 g = σ 4 g ∧ τ 6 g = σ 6 g := fun g _ => by
    rw [el 2 (by decide), el 3 (by decide), el 4 (by decide), el 6 (by decide)]
    exact ⟨rfl, rfl, rfl, rfl⟩
  refine ⟨cT_eq (by rw [el 1 (by decide)]) (el _ (by decide)) (fun u _ => ?_) h1, ⟨h2.1, (e13 _ (by decide)).trans h2.2.1, fun r hr => ?_⟩, cSe_eq hg (e13 _ (by decide)) (e _ (by decide) (by decide)) (e _ (by decide) (by decide)) h3, hc, cKn_eq (e13 _ (by decide)) h5, cKw_eq (by decide) (eh _ (by decide)) (eh _ (by decide)) (eh _ (by decide)) hgt h6, cKw_eq (by decide) (eh _ (by decide)) (eh _ (by decide)) (eh _ (by decide)) hgt h7, cKw_eq (by decide) (eh _ (by decide)) (eh _ (by decide)) (eh _ (by decide)) hgt h8, cRu_eq hg (eh _ (by decide)) (eh _ (by decide)) (eh _ (by decide)) (by rw [eh 186 (by decide)]) (fun g g1 _ => ⟨(hgt g g1).2.1, (hgt g g1).2.2.1⟩) h9, cSr_eq hg (by rw [eh 196 (by decide)]) (eh _ (by decide)) (eh _ (by decide)) (eh _ (by decide)) (by rw [eh 195 (by decide)]) (eh _ (by decide)) h10, cQ_eq (eh _ (by decide)) (eh _ (by decide)) h11⟩
  · rw [el 2 (by decide), el 3 (by decide), el 4 (by decide), el 8 (by decide), el 12 (by decide), el 6 (by decide)]
    exact ⟨rfl, rfl, rfl, rfl, rfl, rfl⟩
  · have hr4 := h2.1
    exact cR1_eq (fun c c1 c2 => e c (by omega) (by omega)) (h2.2.2 r hr)
set_option maxRecDepth 100000 in
set_option maxHeartbeats 4000000 in
theorem mc_newClaim (L : Nat) (xs : Nat → Int32) (d : Nat) (σ : kS) (n R S C : Nat) (b x y z : Int32) (hb : b = 0 ∨ (b = 1 ∧ ∃ v, v < 6 ∧ z = nI v)) (h : cJ σ n R S C) (hC : C < 6) : kXM kT L xs (d + 1) 15 [.ref 13, .int b, .int x, .int y, .int z] σ (fun r σ' => (∃ x, r = some (.int x)) ∧ cAfter σ σ' R) := by
  have hc := h.2.2.2.1
  unfold kXM
  iterate 2 (refine kX_one rfl ?_)
  refine kX_top (hc.2.1) ?_
  iterate 1 (refine kX_one rfl ?_)
  repeat refine kX_one rfl ?_
  refine kX_if (fun q => ?_) (fun q => ?_)
  · iterate 4 (refine kX_one rfl ?_)
    refine kX_top (hc.2.1) ?_
    refine kX_aaldN rfl (rfl) (by decide) (by decide) (by decide) (C) (by first | rfl | decide) (hC) (cl_at hC) ?_
    iterate 3 (refine kX_one rfl ?_)
    refine kX_putN rfl rfl (kT_cl hC) rfl (by rcases hb with rfl | ⟨rfl, -⟩ <;> rfl) rfl ?_
    iterate 2 (refine kX_one rfl ?_)
    refine kX_putN rfl rfl (kT_cl hC) rfl (rfl) rfl ?_
    iterate 2 (refine kX_one rfl ?_)
    refine kX_putN rfl rfl (kT_cl hC) rfl (rfl) rfl ?_
    iterate 2 (refine kX_one rfl ?_)
    refine kX_putN rfl rfl (kT_cl hC) rfl (rfl) rfl ?_
    iterate 2 (refine kX_one rfl ?_)
    refine kX_putN rfl rfl (kT_cl hC) rfl (rfl) rfl ?_
    refine kX_st (va_up σ (163 + 3 * C) (upd (upd (upd (upd (upd (σ (163 + 3 * C)) 0 b) 1 x) 2 y) 3 z) 6 0)) ?_ ?_
    · rw [kup_up, kup_up, kup_up, kup_up]
      simp only [up_eq]
      rfl
    have h13 : va_up σ (163 + 3 * C) (upd (upd (upd (upd (upd (σ (163 + 3 * C)) 0 b) 1 x) 2 y) 3 z) 6 0) 13 = σ 13 := up_ne (by omega)
    have hC0 : va_up σ (163 + 3 * C) (upd (upd (upd (upd (upd (σ (163 + 3 * C)) 0 b) 1 x) 2 y) 3 z) 6 0) (163 + 3 * C) = upd (upd (upd (upd (upd (σ (163 + 3 * C)) 0 b) 1 x) 2 y) 3 z) 6 0 := up_eq
    have hoth : ∀ c, c ≠ 163 + 3 * C → va_up σ (163 + 3 * C) (upd (upd (upd (upd (upd (σ (163 + 3 * C)) 0 b) 1 x) 2 y) 3 z) 6 0) c = σ c := fun c hc => up_ne hc
    generalize va_up σ (163 + 3 * C) (upd (upd (upd (upd (upd (σ (163 + 3 * C)) 0 b) 1 x) 2 y) 3 z) 6 0) = ρ at *
    iterate 3 (refine kX_one rfl ?_)
    refine kX_top (y := nI C) (by rw [h13]; exact hc.2.1) ?_
    iterate 3 (refine kX_one rfl ?_)
    refine kX_st (va_up ρ 13 (upd (ρ 13) 8 (nI (C + 1)))) (by rw [← nI_1]; rfl) ?_
    repeat refine kX_one rfl ?_
    refine kX_ret (i := .ireturn) (len := 1) rfl (Or.inr rfl) rfl ⟨⟨_, rfl⟩, fun c hc => ?_, n, S, C + 1, cJ_cl h (fun c c1 c2 => ?_) (fun j hj => ?_) ⟨by omega, rfl, fun c hc' => ?_⟩⟩
    · rw [up_ne (by omega), hoth c (by omega)]
    · rw [up_ne c1, hoth c (by omega)]
    · show upd (ρ 13) 8 (nI (C + 1)) j = _
      rw [pk_un hj, h13]
    · rw [up_ne (by omega), up_ne (by omega), up_ne (by omega)]
      by_cases e : c = C
      · subst e
        rw [hC0]
        refine ⟨fun hs => ?_, 0, by omega, rfl, fun i hi => absurd hi (Nat.not_lt_zero i)⟩
        rcases hb with rfl | ⟨rfl, v, v1, v2⟩
        · exact absurd rfl hs
        · exact ⟨v, v1, v2⟩
      · rw [hoth _ (by omega), hoth _ (by omega), hoth _ (by omega)]
        exact hc.2.2 c (by omega)
  · have q := qltF q C 6
    omega
set_option maxRecDepth 100000 in
set_option maxHeartbeats 4000000 in
theorem mk_secret (L : Nat) (xs : Nat → Int32) (d : Nat) (σ : kS) (n R S C : Nat) (x y : Int32) (h : cJ σ n R S C) : kXM kT L xs (d + 3) 119 [.ref 0, .int x, .int y] σ (fun r σ' => (∃ x, r = some (.int x)) ∧ cAfter σ σ' R) := by
  have hc := h.2.2.2.1
  have hC6 := hc.1
  unfold kXM
  iterate 4 (refine kX_one rfl ?_)
  refine kX_cal (mc_hasVariable L xs d σ n R x y h.2.1) rfl (Or.inr rfl) rfl rfl rfl (fun r1 σ1 q1 => ?_)
  obtain ⟨rfl, rfl⟩ := q1
  repeat refine kX_one rfl ?_
  refine kX_if (fun q => ?_) (fun q => ?_)
  · obtain ⟨ro, v, -, -, v6, rfl, -⟩ := isB_ne.mp (qne q)
    iterate 3 (refine kX_one rfl ?_)
    refine kX_top (hc.2.1) ?_
    iterate 1 (refine kX_one rfl ?_)
    repeat refine kX_one rfl ?_
    refine kX_if (fun q2 => ?_) (fun q2 => ?_)
    · have q2 := qlt q2 C 6
      iterate 6 (refine kX_one rfl ?_)
      refine kX_cal (mc_newClaim L xs (d + 1) σ n R S C 1 x x (nI v) (Or.inr ⟨rfl, v, v6, rfl⟩) h q2) rfl (Or.inr rfl) rfl rfl rfl (fun r1 σ1 q1 => ?_)
      obtain ⟨⟨z, rfl⟩, hA⟩ := q1
      refine kX_ret (i := .ireturn) (len := 1) rfl (Or.inr rfl) rfl (⟨⟨_, rfl⟩, hA⟩)
    · repeat refine kX_one rfl ?_
      refine kX_ret (i := .ireturn) (len := 1) rfl (Or.inr rfl) rfl (⟨⟨_, rfl⟩, cAfter_same h⟩)
  · repeat refine kX_one rfl ?_
    refine kX_ret (i := .ireturn) (len := 1) rfl (Or.inr rfl) rfl (⟨⟨_, rfl⟩, cAfter_same h⟩)
set_option maxRecDepth 100000 in
set_option maxHeartbeats 4000000 in
theorem mk_agree (L : Nat) (xs : Nat → Int32) (d : Nat) (σ : kS) (n R S C : Nat) (x y z : Int32) (h : cJ σ n R S C) : kXM kT L xs (d + 3) 120 [.ref 0, .int x, .int y, .int z] σ (fun r σ' => (∃ x, r = some (.int x)) ∧ cAfter σ σ' R) := by
  have hc := h.2.2.2.1
  have hC6 := hc.1
  have hR := h.2.1
  unfold kXM
  have k22 : kX kT L xs (d + 3) 120 22 (lv_args 0 [.ref 0, .int x, .int y, .int z]) [] σ (fun r σ' => (∃ x, r = some (.int x)) ∧ cAfter σ σ' R) := by
    repeat refine kX_one rfl ?_
    refine kX_ret (i := .ireturn) (len := 1) rfl (Or.inr rfl) rfl (⟨⟨_, rfl⟩, cAfter_same h⟩)
  have k34 : kX kT L xs (d + 3) 120 34 (lv_args 0 [.ref 0, .int x, .int y, .int z]) [] σ (fun r σ' => (∃ x, r = some (.int x)) ∧ cAfter σ σ' R) := by
    repeat refine kX_one rfl ?_
    refine kX_ret (i := .ireturn) (len := 1) rfl (Or.inr rfl) rfl (⟨⟨_, rfl⟩, cAfter_same h⟩)
  iterate 3 (refine kX_one rfl ?_)
  refine kX_cal (mc_hasRole L xs (d + 1) σ R x hR.1 hR.2.1) rfl (Or.inr rfl) rfl rfl rfl (fun r1 σ1 q1 => ?_)
  obtain ⟨rfl, rfl⟩ := q1
  repeat refine kX_one rfl ?_
  refine kX_if (fun q => ?_) (fun q => ?_)
  · exact k22
  · iterate 3 (refine kX_one rfl ?_)
    refine kX_cal (mc_hasRole L xs (d + 1) σ R y hR.1 hR.2.1) rfl (Or.inr rfl) rfl rfl rfl (fun r1 σ1 q1 => ?_)
    obtain ⟨rfl, rfl⟩ := q1
    repeat refine kX_one rfl ?_
    refine kX_if (fun q2 => ?_) (fun q2 => ?_)
    · repeat refine kX_one rfl ?_
      refine kX_if (fun q3 => ?_) (fun q3 => ?_)
      · exact k34
      · repeat refine kX_one rfl ?_
        refine kX_if (fun q4 => ?_) (fun q4 => ?_)
        · iterate 3 (refine kX_one rfl ?_)
          refine kX_top (hc.2.1) ?_
          iterate 1 (refine kX_one rfl ?_)
          repeat refine kX_one rfl ?_
          refine kX_if (fun q5 => ?_) (fun q5 => ?_)
          · have q5 := qlt q5 C 6
            iterate 6 (refine kX_one rfl ?_)
            refine kX_cal (mc_newClaim L xs (d + 1) σ n R S C 0 x y z (Or.inl rfl) h q5) rfl (Or.inr rfl) rfl rfl rfl (fun r1 σ1 q1 => ?_)
            obtain ⟨⟨z, rfl⟩, hA⟩ := q1
            refine kX_ret (i := .ireturn) (len := 1) rfl (Or.inr rfl) rfl (⟨⟨_, rfl⟩, hA⟩)
          · repeat refine kX_one rfl ?_
            refine kX_ret (i := .ireturn) (len := 1) rfl (Or.inr rfl) rfl (⟨⟨_, rfl⟩, cAfter_same h⟩)
        · exact k34
    · exact k22
end
section
/-! the class: join, know, ofRole -/
set_option maxRecDepth 100000 in
set_option maxHeartbeats 4000000 in
theorem mc_tie (L : Nat) (xs : Nat → Int32) (d : Nat) (σ : kS) (c j x y : Nat) (hc : c < 6) (hj : j < 4) (h : σ (163 + 3 * c) 6 = nI j) : kXM kT L xs (d + 1) 39 [.ref (163 + 3 * c), .int (nI x), .int (nI y)] σ (fun q σ' => (∃ x, q = some (.int x)) ∧ σ' = va_up (va_up (va_up σ (164 + 3 * c) (upd (σ (164 + 3 * c)) j (nI x))) (165 + 3 * c) (upd (σ (165 + 3 * c)) j (nI y))) (163 + 3 * c) (upd (σ (163 + 3 * c)) 6 (nI (j + 1)))) := by
  unfold kXM
  iterate 1 (refine kX_one rfl ?_)
  refine kX_getN rfl rfl (kT_cl hc) rfl ?_
  refine kX_top (h) ?_
  iterate 1 (refine kX_one rfl ?_)
  repeat refine kX_one rfl ?_
  refine kX_if (fun q => ?_) (fun q => ?_)
  · have q := qge q j 4
    omega
  · iterate 1 (refine kX_one rfl ?_)
    refine kX_getN rfl rfl (kT_cl hc) rfl ?_
    iterate 1 (refine kX_one rfl ?_)
    refine kX_getN rfl rfl (kT_cl hc) rfl ?_
    refine kX_top (h) ?_
    iterate 1 (refine kX_one rfl ?_)
    refine kX_iastN rfl ((kT_c1 hc).1) (by decide) (j) (by first | rfl | decide) (hj) ?_
    iterate 1 (refine kX_one rfl ?_)
    refine kX_getN rfl rfl (kT_cl hc) rfl ?_
    iterate 1 (refine kX_one rfl ?_)
    refine kX_getN rfl rfl (kT_cl hc) rfl ?_
    refine kX_top (y := nI j) (by rw [up_ne (by omega)]; exact h) ?_
    iterate 1 (refine kX_one rfl ?_)
    refine kX_iastN rfl ((kT_c1 hc).2) (by decide) (j) (by first | rfl | decide) (hj) ?_
    iterate 2 (refine kX_one rfl ?_)
    refine kX_getN rfl rfl (kT_cl hc) rfl ?_
    refine kX_top (y := nI j) (by rw [up_ne (by omega), up_ne (by omega)]; exact h) ?_
    iterate 2 (refine kX_one rfl ?_)
    refine kX_putN rfl rfl (kT_cl hc) rfl (rfl) rfl ?_
    iterate 1 (refine kX_one rfl ?_)
    refine kX_getN rfl rfl (kT_cl hc) rfl ?_
    refine kX_ret (i := .ireturn) (len := 1) rfl (Or.inr rfl) rfl ⟨⟨_, rfl⟩, ?_⟩
    rw [← nI_1]
    funext e
    by_cases e3 : e = 163 + 3 * c
    · subst e3
      rw [up_eq, up_eq, up_ne (by omega), up_ne (by omega)]
      rfl
    · rw [up_ne e3, up_ne e3]
      by_cases e2 : e = 165 + 3 * c
      · subst e2
        rw [up_eq, up_eq, up_ne (by omega)]
      · rw [up_ne e2, up_ne e2]
set_option maxRecDepth 100000 in
set_option maxHeartbeats 4000000 in
theorem mk_join (L : Nat) (xs : Nat → Int32) (d : Nat) (σ : kS) (n R S C : Nat) (x y z : Int32) (h : cJ σ n R S C) : kXM kT L xs (d + 3) 121 [.ref 0, .int x, .int y, .int z] σ (fun r σ' => (∃ x, r = some (.int x)) ∧ cAfter σ σ' R) := by
  have hcl := h.2.2.2.1
  have hC6 := hcl.1
  unfold kXM
  iterate 3 (refine kX_one rfl ?_)
  refine kX_cal (mc_hasClaim L xs (d + 1) σ C x hC6 hcl.2.1) rfl (Or.inr rfl) rfl rfl rfl (fun r1 σ1 q1 => ?_)
  obtain ⟨rfl, rfl⟩ := q1
  repeat refine kX_one rfl ?_
  refine kX_if (fun q => ?_) (fun q => ?_)
  · obtain ⟨c, hc, rfl⟩ := isB_ne.mp (qne q)
    have hc6 : c < 6 := by omega
    obtain ⟨a1, j, j1, j2, j3⟩ := hcl.2.2 c hc
    iterate 4 (refine kX_one rfl ?_)
    refine kX_aaldN rfl (rfl) (by decide) (by decide) (by decide) (c) (by first | rfl | decide) (hc6) (cl_at hc6) ?_
    iterate 2 (refine kX_one rfl ?_)
    refine kX_getN rfl rfl (kT_cl hc6) rfl ?_
    repeat refine kX_one rfl ?_
    refine kX_if (fun q2 => ?_) (fun q2 => ?_)
    · iterate 3 (refine kX_one rfl ?_)
      refine kX_getN rfl rfl (kT_cl hc6) rfl ?_
      iterate 1 (refine kX_one rfl ?_)
      refine kX_cal (mc_hasVariable L xs d σ n R _ y h.2.1) rfl (Or.inr rfl) rfl rfl rfl (fun r1 σ1 q1 => ?_)
      obtain ⟨rfl, rfl⟩ := q1
      repeat refine kX_one rfl ?_
      refine kX_if (fun q3 => ?_) (fun q3 => ?_)
      · repeat refine kX_one rfl ?_
        refine kX_ret (i := .ireturn) (len := 1) rfl (Or.inr rfl) rfl (⟨⟨_, rfl⟩, cAfter_same h⟩)
      · obtain ⟨-, vy, -, -, vy6, rfl, -⟩ := isB_ne.mp (qeqF q3)
        iterate 3 (refine kX_one rfl ?_)
        refine kX_getN rfl rfl (kT_cl hc6) rfl ?_
        iterate 1 (refine kX_one rfl ?_)
        refine kX_cal (mc_hasVariable L xs d σ n R _ z h.2.1) rfl (Or.inr rfl) rfl rfl rfl (fun r1 σ1 q1 => ?_)
        obtain ⟨rfl, rfl⟩ := q1
        repeat refine kX_one rfl ?_
        refine kX_if (fun q4 => ?_) (fun q4 => ?_)
        · obtain ⟨-, vz, -, -, vz6, rfl, -⟩ := isB_ne.mp (qne q4)
          iterate 1 (refine kX_one rfl ?_)
          refine kX_getN rfl rfl (kT_cl hc6) rfl ?_
          refine kX_top (j2) ?_
          iterate 1 (refine kX_one rfl ?_)
          repeat refine kX_one rfl ?_
          refine kX_if (fun q5 => ?_) (fun q5 => ?_)
          · have q5 := qlt q5 j 4
            iterate 3 (refine kX_one rfl ?_)
            refine kX_cal (mc_tie L xs (d + 1) σ c j vy vz hc6 q5 j2) rfl (Or.inr rfl) rfl (jcall_v rfl rfl rfl (kT_cl hc6) rfl rfl) rfl (fun r1 σ1 q1 => ?_)
            obtain ⟨⟨w, rfl⟩, rfl⟩ := q1
            refine kX_ret (i := .ireturn) (len := 1) rfl (Or.inr rfl) rfl ⟨⟨_, rfl⟩, fun e he => ?_, n, S, C, cJ_cl h (fun e e1 e2 => ?_) (fun k _ => ?_) ⟨hC6, ?_, fun c' hc' => ?_⟩⟩
            · rw [up_ne (by omega), up_ne (by omega), up_ne (by omega)]
            · rw [up_ne (by omega), up_ne (by omega), up_ne (by omega)]
            · rw [up_ne (by omega), up_ne (by omega), up_ne (by omega)]
            · rw [up_ne (by omega), up_ne (by omega), up_ne (by omega)]
              exact hcl.2.1
            · by_cases e : c' = c
              · subst e
                rw [up_eq, up_ne (show 164 + 3 * c' ≠ 163 + 3 * c' by omega), up_ne (show 164 + 3 * c' ≠ 165 + 3 * c' by omega), up_eq, up_ne (show 165 + 3 * c' ≠ 163 + 3 * c' by omega), up_eq]
                refine ⟨a1, j + 1, by omega, rfl, fun i hi => ?_⟩
                by_cases e : i = j
                · subst e
                  rw [pk_us, pk_us]
                  exact ⟨⟨vy, vy6, rfl⟩, vz, vz6, rfl⟩
                · rw [pk_un e, pk_un e]
                  exact j3 i (by omega)
              · have hx : ∀ k, k < 3 → va_up (va_up (va_up σ (164 + 3 * c) (upd (σ (164 + 3 * c)) j (nI vy))) (165 + 3 * c) (upd (σ (165 + 3 * c)) j (nI vz))) (163 + 3 * c) (upd (σ (163 + 3 * c)) 6 (nI (j + 1))) (163 + k + 3 * c') = σ (163 + k + 3 * c') := fun k hk => by
                  rw [up_ne (by omega), up_ne (by omega), up_ne (by omega)]
                have := hx 0 (by omega)
                have := hx 1 (by omega)
                have := hx 2 (by omega)
                simp only [Nat.add_zero] at *
                rw [hx 0 (by omega), hx 1 (by omega), hx 2 (by omega)]
                exact hcl.2.2 c' hc'
          · repeat refine kX_one rfl ?_
            refine kX_ret (i := .ireturn) (len := 1) rfl (Or.inr rfl) rfl (⟨⟨_, rfl⟩, cAfter_same h⟩)
        · repeat refine kX_one rfl ?_
          refine kX_ret (i := .ireturn) (len := 1) rfl (Or.inr rfl) rfl (⟨⟨_, rfl⟩, cAfter_same h⟩)
    · repeat refine kX_one rfl ?_
      refine kX_ret (i := .ireturn) (len := 1) rfl (Or.inr rfl) rfl (⟨⟨_, rfl⟩, cAfter_same h⟩)
  · repeat refine kX_one rfl ?_
    refine kX_ret (i := .ireturn) (len := 1) rfl (Or.inr rfl) rfl (⟨⟨_, rfl⟩, cAfter_same h⟩)
set_option maxRecDepth 100000 in
set_option maxHeartbeats 4000000 in
theorem mc_isKnown (L : Nat) (xs : Nat → Int32) (d : Nat) (σ : kS) (k : Nat) (x : Int32) (hk : k ≤ 20) (h : σ 13 10 = nI k) : kXM kT L xs (d + 1) 12 [.ref 13, .int x] σ (fun r σ' => (r = some (.int 0) ∨ r = some (.int 1)) ∧ σ = σ') := by
  unfold kXM
  have loop : ∀ i : Nat, i ≤ k → kX kT L xs (d + 1) 12 2 [(2, .int (nI i)), (0, .ref 13), (1, .int x)] [] σ (fun r σ' => (r = some (.int 0) ∨ r = some (.int 1)) ∧ σ = σ') := by
    refine kX_while (fun i : Nat => [(2, .int (nI i)), (0, .ref 13), (1, .int x)]) (fun _ => σ) (fun i => i ≤ k) (fun i => k - i) ?_
    intro i hi ih
    iterate 3 (refine kX_one rfl ?_)
    refine kX_top (h) ?_
    repeat refine kX_one rfl ?_
    refine kX_if (fun q => ?_) (fun q => ?_)
    · repeat refine kX_one rfl ?_
      refine kX_ret (i := .ireturn) (len := 1) rfl (Or.inr rfl) rfl (⟨Or.inl rfl, rfl⟩)
    · have q := qgeF q i k
      iterate 3 (refine kX_one rfl ?_)
      refine kX_ialdN rfl rfl (by decide) (i) (by first | rfl | decide) (by omega) ?_
      iterate 1 (refine kX_one rfl ?_)
      repeat refine kX_one rfl ?_
      refine kX_if (fun q2 => ?_) (fun q2 => ?_)
      · iterate 2 (refine kX_one rfl ?_)
        have := ih (i + 1) q (by omega)
        rw [← nI_1] at this
        exact kX_lv _ rfl rfl rfl this
      · repeat refine kX_one rfl ?_
        refine kX_ret (i := .ireturn) (len := 1) rfl (Or.inr rfl) rfl (⟨Or.inr rfl, rfl⟩)
  iterate 2 (refine kX_one rfl ?_)
  exact kX_lv _ rfl rfl rfl (loop 0 (Nat.zero_le _))
theorem cJ_kn {σ τ : kS} {n R S C : Nat} (h : cJ σ n R S C) (e : ∀ c, c ≠ 13 → c ≠ 19 → τ c = σ c) (e13 : ∀ j, j ≠ 10 → τ 13 j = σ 13 j) (hk : cKn τ) : cJ τ n R S C := by
  obtain ⟨h1, h2, h3, h4, h5, h6, h7, h8, h9, h10, h11⟩ := h
  have hcl : cCl τ C := cCl_eq (e13 _ (by decide)) (fun c c1 c2 => e c (by omega) (by omega)) h4
  have := cJ_lo (R' := R) ⟨h1, h2, h3, h4, h5, h6, h7, h8, h9, h10, h11⟩ (τ := va_up (va_up τ 13 (σ 13)) 19 (σ 19)) (fun c hc => ?_) (fun j _ => ?_) ?_ (Nat.le_refl _)
  · obtain ⟨g1, g2, g3, g4, g5, g6, g7, g8, g9, g10, g11⟩ := this
    exact ⟨g1, ⟨g2.1, (e13 _ (by decide)).trans h2.2.1, fun r hr => cR1_eq (fun c c1 c2 => e c (by omega) (by omega)) (h2.2.2 r hr)⟩, ⟨g3.1, (e13 _ (by decide)).trans h3.2.1, g3.2.2.1, g3.2.2.2⟩, hcl, hk, g6, g7, g8, g9, g10, g11⟩
  · by_cases q : c = 19
    · subst q
      exact up_eq
    · rw [up_ne q]
      by_cases q2 : c = 13
      · subst q2
        exact up_eq
      · rw [up_ne q2, e c q2 q]
  · rw [up_ne (by decide), up_eq]
  · refine ⟨h2.1, by rw [up_ne (by decide), up_eq]; exact h2.2.1, fun r hr => ?_⟩
    have hR4 := h2.1
    exact cR1_eq (fun c c1 c2 => by rw [up_ne (by omega), up_ne (by omega), e c (by omega) (by omega)]) (h2.2.2 r hr)
set_option maxRecDepth 100000 in
set_option maxHeartbeats 4000000 in
theorem mk_know (L : Nat) (xs : Nat → Int32) (d : Nat) (σ : kS) (n R S C : Nat) (x : Int32) (h : cJ σ n R S C) : kXM kT L xs (d + 4) 117 [.ref 0, .int x] σ (fun r σ' => (∃ x, r = some (.int x)) ∧ cAfter σ σ' R) := by
  have hT := h.1
  have hn := hT.1
  obtain ⟨k, hk, hkn⟩ := h.2.2.2.2.1
  unfold kXM
  iterate 3 (refine kX_one rfl ?_)
  refine kX_cal (mc_has L xs (d + 2) σ n x hn hT.2.1) rfl (Or.inr rfl) rfl rfl rfl (fun r1 σ1 q1 => ?_)
  obtain ⟨rfl, rfl⟩ := q1
  repeat refine kX_one rfl ?_
  refine kX_if (fun q => ?_) (fun q => ?_)
  · obtain ⟨t, ht, rfl⟩ := isB_ne.mp (qne q)
    repeat refine kX_one rfl ?_
    refine kX_if (fun q2 => ?_) (fun q2 => ?_)
    · iterate 3 (refine kX_one rfl ?_)
      refine kX_top (hkn) ?_
      iterate 1 (refine kX_one rfl ?_)
      repeat refine kX_one rfl ?_
      refine kX_if (fun q3 => ?_) (fun q3 => ?_)
      · have q3 := qlt q3 k 20
        iterate 4 (refine kX_one rfl ?_)
        refine kX_baldN rfl rfl (by decide) (t) (by first | rfl | decide) (by omega) ?_
        repeat refine kX_one rfl ?_
        refine kX_if (fun q4 => ?_) (fun q4 => ?_)
        · repeat refine kX_one rfl ?_
          refine kX_ret (i := .ireturn) (len := 1) rfl (Or.inr rfl) rfl (⟨⟨_, rfl⟩, cAfter_same h⟩)
        · iterate 3 (refine kX_one rfl ?_)
          refine kX_cal (mc_isKnown L xs (d + 2) σ k (nI t) hk hkn) rfl (Or.inr rfl) rfl rfl rfl (fun r1 σ1 q1 => ?_)
          obtain ⟨hq, rfl⟩ := q1
          rcases hq with rfl | rfl
          · iterate 3 (refine kX_one rfl ?_)
            refine kX_cal (mc_forget L xs d σ) rfl (Or.inr rfl) rfl rfl rfl (fun r1 ρ q1 => ?_)
            obtain ⟨rfl, g1, g2, -, -, g3⟩ := q1
            have h2 := cJ_sr h g3 (cSr_0 g1 g2)
            have hkn2 : ρ 13 10 = nI k := by
              rw [g3 13 (by decide) (by decide) (by decide)]
              exact hkn
            iterate 3 (refine kX_one rfl ?_)
            have hle : kXM kT L xs (d + 3) 13 [.ref 13, .int (nI t)] ρ (fun r σ' => (∃ x, r = some (.int x)) ∧ σ' = va_up (va_up ρ 19 (upd (ρ 19) k (nI t))) 13 (upd (ρ 13) 10 (nI (k + 1)))) := by
              unfold kXM
              iterate 2 (refine kX_one rfl ?_)
              refine kX_top (hkn2) ?_
              iterate 1 (refine kX_one rfl ?_)
              repeat refine kX_one rfl ?_
              refine kX_if (fun q5 => ?_) (fun q5 => ?_)
              · have q5 := qge q5 k 20
                omega
              · iterate 4 (refine kX_one rfl ?_)
                refine kX_top (hkn2) ?_
                iterate 1 (refine kX_one rfl ?_)
                refine kX_iastN rfl rfl (by decide) (k) (by first | rfl | decide) (by omega) ?_
                iterate 3 (refine kX_one rfl ?_)
                refine kX_top (hkn2) ?_
                iterate 3 (refine kX_one rfl ?_)
                refine kX_st (va_up (va_up ρ 19 (upd (ρ 19) k (nI t))) 13 (upd (ρ 13) 10 (nI (k + 1)))) (by rw [← nI_1]; rfl) ?_
                repeat refine kX_one rfl ?_
                refine kX_ret (i := .ireturn) (len := 1) rfl (Or.inr rfl) rfl (⟨⟨_, rfl⟩, rfl⟩)
            refine kX_cal hle rfl (Or.inr rfl) rfl rfl rfl (fun r1 τ q1 => ?_)
            obtain ⟨⟨w, rfl⟩, rfl⟩ := q1
            refine kX_ret (i := .ireturn) (len := 1) rfl (Or.inr rfl) rfl ⟨⟨_, rfl⟩, fun c hc => ?_, n, S, C, cJ_kn h2 (fun c c1 c2 => ?_) (fun j hj => pk_un hj) ⟨k + 1, q3, rfl⟩⟩
            · rw [up_ne (by omega), up_ne (by omega)]
              exact g3 c (by omega) (by omega) (by omega)
            · rw [up_ne c1, up_ne c2]
          · repeat refine kX_one rfl ?_
            refine kX_ret (i := .ireturn) (len := 1) rfl (Or.inr rfl) rfl (⟨⟨_, rfl⟩, cAfter_same h⟩)
      · repeat refine kX_one rfl ?_
        refine kX_ret (i := .ireturn) (len := 1) rfl (Or.inr rfl) rfl (⟨⟨_, rfl⟩, cAfter_same h⟩)
    · repeat refine kX_one rfl ?_
      refine kX_ret (i := .ireturn) (len := 1) rfl (Or.inr rfl) rfl (⟨⟨_, rfl⟩, cAfter_same h⟩)
  · repeat refine kX_one rfl ?_
    refine kX_ret (i := .ireturn) (len := 1) rfl (Or.inr rfl) rfl (⟨⟨_, rfl⟩, cAfter_same h⟩)
end
section
/-! the class: ofRole, countOf -/
theorem fm_ok : ∀ j : Fin 36, 10 ≤ j.1 → ∃ k : Fin 10, jmmv 2 (nI j.1) (Int8.ofInt 10).toInt32 = nI k.1 := by decide +kernel
set_option maxRecDepth 100000 in
set_option maxHeartbeats 4000000 in
theorem mk_ofRole (L : Nat) (xs : Nat → Int32) (d : Nat) (σ : kS) (n R S C : Nat) (x w : Int32) (h : cJ σ n R S C) : kXM kT L xs (d + 2) 137 [.ref 0, .int x, .int w] σ (fun r σ' => (∃ x, r = some (.int x)) ∧ cAfter σ σ' R) := by
  have hR := h.2.1
  have hR4 := hR.1
  unfold kXM
  iterate 3 (refine kX_one rfl ?_)
  refine kX_cal (mc_hasRole L xs d σ R x hR4 hR.2.1) rfl (Or.inr rfl) rfl rfl rfl (fun r1 σ1 q1 => ?_)
  obtain ⟨rfl, rfl⟩ := q1
  repeat refine kX_one rfl ?_
  refine kX_if (fun q => ?_) (fun q => ?_)
  · obtain ⟨r, hr, rfl⟩ := isB_ne.mp (qne q)
    have hr4 : r < 4 := by omega
    obtain ⟨v, ev, v1, e1, v2, e2, so1, ev1⟩ := hR.2.2 r hr
    have k89 : ∀ y : Int32, kX kT L xs (d + 2) 137 89 [(4, .int y), (3, .ref (23 + 35 * r)), (0, .ref 0), (1, .int (nI r)), (2, .int w)] [] σ (fun r σ' => (∃ x, r = some (.int x)) ∧ cAfter σ σ' R) := by
      intro y
      repeat refine kX_one rfl ?_
      refine kX_ret (i := .ireturn) (len := 1) rfl (Or.inr rfl) rfl (⟨⟨_, rfl⟩, cAfter_same h⟩)
    have k63 : kX kT L xs (d + 2) 137 63 [(3, .ref (23 + 35 * r)), (0, .ref 0), (1, .int (nI r)), (2, .int w)] [] σ (fun r σ' => (∃ x, r = some (.int x)) ∧ cAfter σ σ' R) := by
      iterate 6 (refine kX_one rfl ?_)
      repeat refine kX_one rfl ?_
      refine kX_if (fun q2 => ?_) (fun q2 => ?_)
      · exact kX_lv _ rfl rfl rfl (k89 _)
      · have q2 : ¬ w < 10 := of_decide_eq_false q2
        iterate 2 (refine kX_one rfl ?_)
        repeat refine kX_one rfl ?_
        refine kX_if (fun q3 => ?_) (fun q3 => ?_)
        · exact kX_lv _ rfl rfl rfl (k89 _)
        · have q3 : ¬ 35 < w := of_decide_eq_false q3
          obtain ⟨j, j1, rfl⟩ := nI_of (x := w) (fun z => q2 (by
            rw [Int32.lt_iff_toInt_lt] at z ⊢
            have e1 : (0 : Int32).toInt = 0 := rfl
            have e2 : (10 : Int32).toInt = 10 := rfl
            omega))
          have j2 : 10 ≤ j ∧ j ≤ 35 := by
            rw [Int32.lt_iff_toInt_lt, nI_toInt j1] at q2 q3
            have e1 : (35 : Int32).toInt = 35 := rfl
            have e2 : (10 : Int32).toInt = 10 := rfl
            omega
          obtain ⟨⟨k, hk⟩, hk2⟩ := fm_ok ⟨j, by omega⟩ j2.1
          simp only at hk2
          iterate 1 (refine kX_one rfl ?_)
          refine kX_top (hk2) ?_
          iterate 1 (refine kX_one rfl ?_)
          repeat refine kX_one rfl ?_
          refine kX_if (fun q4 => ?_) (fun q4 => ?_)
          · have q4 := qle q4 k 5
            refine kX_lv [(4, .int (nI k)), (3, .ref (23 + 35 * r)), (0, .ref 0), (1, .int (nI r)), (2, .int (nI j))] rfl rfl (by rw [← hk2]; rfl) ?_
            iterate 2 (refine kX_one rfl ?_)
            repeat refine kX_one rfl ?_
            refine kX_if (fun q5 => ?_) (fun q5 => ?_)
            · iterate 2 (refine kX_one rfl ?_)
              refine kX_getN rfl rfl (kT_ro hr4) rfl ?_
              refine kX_top (e2) ?_
              repeat refine kX_one rfl ?_
              refine kX_if (fun q6 => ?_) (fun q6 => ?_)
              · have q6 := qlt q6 k ev
                iterate 2 (refine kX_one rfl ?_)
                repeat refine kX_one rfl ?_
                refine kX_if (fun q7 => ?_) (fun q7 => ?_)
                · iterate 1 (refine kX_one rfl ?_)
                  refine kX_getN rfl rfl (kT_ro hr4) rfl ?_
                  iterate 1 (refine kX_one rfl ?_)
                  refine kX_aaldN rfl (kT_re hr4) (by decide) (by decide) (by decide) (k) (by first | rfl | decide) (by omega) (ev_at (by omega)) ?_
                  refine kX_getN rfl rfl (kT_ev hr4 (show k < 6 by omega)) rfl ?_
                  refine kX_cal (mc_asNumber L xs d σ _) rfl (Or.inr rfl) rfl rfl rfl (fun r1 σ1 q1 => ?_)
                  obtain ⟨rfl, rfl⟩ := q1
                  refine kX_ret (i := .ireturn) (len := 1) rfl (Or.inr rfl) rfl (⟨⟨_, rfl⟩, cAfter_same h⟩)
                · iterate 1 (refine kX_one rfl ?_)
                  refine kX_getN rfl rfl (kT_ro hr4) rfl ?_
                  iterate 1 (refine kX_one rfl ?_)
                  refine kX_aaldN rfl (kT_re hr4) (by decide) (by decide) (by decide) (k) (by first | rfl | decide) (by omega) (ev_at (by omega)) ?_
                  refine kX_getN rfl rfl (kT_ev hr4 (show k < 6 by omega)) rfl ?_
                  repeat refine kX_one rfl ?_
                  refine kX_ret (i := .ireturn) (len := 1) rfl (Or.inr rfl) rfl (⟨⟨_, rfl⟩, cAfter_same h⟩)
              · repeat refine kX_one rfl ?_
                refine kX_ret (i := .ireturn) (len := 1) rfl (Or.inr rfl) rfl (⟨⟨_, rfl⟩, cAfter_same h⟩)
            · iterate 2 (refine kX_one rfl ?_)
              refine kX_getN rfl rfl (kT_ro hr4) rfl ?_
              refine kX_top (v2) ?_
              repeat refine kX_one rfl ?_
              refine kX_if (fun q6 => ?_) (fun q6 => ?_)
              · repeat refine kX_one rfl ?_
                refine kX_ret (i := .ireturn) (len := 1) rfl (Or.inr rfl) rfl (⟨⟨_, rfl⟩, cAfter_same h⟩)
              · have q6 := qgeF q6 k v
                iterate 1 (refine kX_one rfl ?_)
                refine kX_getN rfl rfl (kT_ro hr4) rfl ?_
                iterate 1 (refine kX_one rfl ?_)
                refine kX_ialdN rfl (kT_ra hr4) (by decide) (k) (by first | rfl | decide) (by omega) ?_
                repeat refine kX_one rfl ?_
                refine kX_ret (i := .ireturn) (len := 1) rfl (Or.inr rfl) rfl (⟨⟨_, rfl⟩, cAfter_same h⟩)
          · exact kX_lv _ rfl rfl rfl (k89 _)
    iterate 4 (refine kX_one rfl ?_)
    refine kX_aaldN rfl (rfl) (by decide) (by decide) (by decide) (r) (by first | rfl | decide) (hr4) (ro_at hr4) ?_
    iterate 1 (refine kX_one rfl ?_)
    repeat refine kX_one rfl ?_
    refine kX_if (fun q2 => ?_) (fun q2 => ?_)
    · exact kX_lv _ rfl rfl rfl k63
    · repeat refine kX_one rfl ?_
      refine kX_if (fun q3 => ?_) (fun q3 => ?_)
      · exact kX_lv _ rfl rfl rfl k63
      · repeat refine kX_one rfl ?_
        refine kX_if (fun q4 => ?_) (fun q4 => ?_)
        · repeat refine kX_one rfl ?_
          refine kX_if (fun q5 => ?_) (fun q5 => ?_)
          · iterate 1 (refine kX_one rfl ?_)
            refine kX_getN rfl rfl (kT_ro hr4) rfl ?_
            refine kX_cal (mc_asNumber L xs d σ _) rfl (Or.inr rfl) rfl rfl rfl (fun r1 σ1 q1 => ?_)
            obtain ⟨rfl, rfl⟩ := q1
            refine kX_ret (i := .ireturn) (len := 1) rfl (Or.inr rfl) rfl (⟨⟨_, rfl⟩, cAfter_same h⟩)
          · iterate 1 (refine kX_one rfl ?_)
            refine kX_getN rfl rfl (kT_ro hr4) rfl ?_
            repeat refine kX_one rfl ?_
            refine kX_ret (i := .ireturn) (len := 1) rfl (Or.inr rfl) rfl (⟨⟨_, rfl⟩, cAfter_same h⟩)
        · iterate 1 (refine kX_one rfl ?_)
          refine kX_getN rfl rfl (kT_ro hr4) rfl ?_
          repeat refine kX_one rfl ?_
          refine kX_ret (i := .ireturn) (len := 1) rfl (Or.inr rfl) rfl (⟨⟨_, rfl⟩, cAfter_same h⟩)
  · repeat refine kX_one rfl ?_
    refine kX_ret (i := .ireturn) (len := 1) rfl (Or.inr rfl) rfl (⟨⟨_, rfl⟩, cAfter_same h⟩)
set_option maxRecDepth 100000 in
set_option maxHeartbeats 4000000 in
theorem mc_countOf (L : Nat) (xs : Nat → Int32) (d : Nat) (σ : kS) (r v : Nat) (x : Int32) (hr : r < 4) (hv : v ≤ 6) (h : σ (23 + 35 * r) 3 = nI v) : kXM kT L xs (d + 1) 64 [.ref (23 + 35 * r), .int x] σ (fun q σ' => q = some (.int (nI (cnt (fun k => σ (24 + 35 * r) k = x) v))) ∧ σ = σ') := by
  unfold kXM
  have loop : ∀ k : Nat, k ≤ v → kX kT L xs (d + 1) 64 4 [(3, .int (nI k)), (2, .int (nI (cnt (fun k => σ (24 + 35 * r) k = x) k))), (0, .ref (23 + 35 * r)), (1, .int x)] [] σ (fun q σ' => q = some (.int (nI (cnt (fun k => σ (24 + 35 * r) k = x) v))) ∧ σ = σ') := by
    refine kX_while (fun k : Nat => [(3, .int (nI k)), (2, .int (nI (cnt (fun k => σ (24 + 35 * r) k = x) k))), (0, .ref (23 + 35 * r)), (1, .int x)]) (fun _ => σ) (fun k => k ≤ v) (fun k => v - k) ?_
    intro k hk ih
    iterate 2 (refine kX_one rfl ?_)
    refine kX_getN rfl rfl (kT_ro hr) rfl ?_
    refine kX_top (h) ?_
    repeat refine kX_one rfl ?_
    refine kX_if (fun q => ?_) (fun q => ?_)
    · have q := qge q k v
      obtain rfl : k = v := by omega
      repeat refine kX_one rfl ?_
      refine kX_ret (i := .ireturn) (len := 1) rfl (Or.inr rfl) rfl (⟨rfl, rfl⟩)
    · have q := qgeF q k v
      have k25 : ∀ m, cnt (fun k => σ (24 + 35 * r) k = x) (k + 1) = m → kX kT L xs (d + 1) 64 25 [(3, .int (nI k)), (2, .int (nI m)), (0, .ref (23 + 35 * r)), (1, .int x)] [] σ (fun q σ' => q = some (.int (nI (cnt (fun k => σ (24 + 35 * r) k = x) v))) ∧ σ = σ') := by
        intro m hm
        subst hm
        iterate 2 (refine kX_one rfl ?_)
        have := ih (k + 1) q (by omega)
        rw [← nI_1] at this
        exact kX_lv _ rfl rfl rfl this
      iterate 1 (refine kX_one rfl ?_)
      refine kX_getN rfl rfl (kT_ro hr) rfl ?_
      iterate 1 (refine kX_one rfl ?_)
      refine kX_ialdN rfl (kT_ra hr) (by decide) (k) (by first | rfl | decide) (by omega) ?_
      iterate 1 (refine kX_one rfl ?_)
      repeat refine kX_one rfl ?_
      refine kX_if (fun q2 => ?_) (fun q2 => ?_)
      · have q2 : ¬ σ (24 + 35 * r) k = x := qne q2
        exact k25 _ (by rw [cnt, if_neg q2]; rfl)
      · have q2 : σ (24 + 35 * r) k = x := qneF q2
        iterate 1 (refine kX_one rfl ?_)
        have := k25 (cnt (fun k => σ (24 + 35 * r) k = x) k + 1) (by rw [cnt, if_pos q2])
        rw [← nI_1] at this
        exact kX_lv _ rfl rfl rfl this
  iterate 4 (refine kX_one rfl ?_)
  exact kX_lv _ rfl rfl rfl (loop 0 (Nat.zero_le _))
end
section
/-! the class: newSession -/
/-- nothing, or a GROUND TERM -/
def gV (σ : kS) (n : Nat) (w : Int32) : Prop := w = -1 ∨ ∃ z, z < n ∧ w = nI z ∧ σ 8 z = 1
/-- where newSession stands -/
def nsI (σ τ : kS) (n n' S v : Nat) : Prop := n ≤ n' ∧ cT τ n' ∧ cGr σ (va_up τ 17 (σ 17)) n ∧ (∀ j, j < 7 * S → τ 17 j = σ 17 j) ∧ ∀ k, k < v → gV τ n' (τ 17 (7 * S + 1 + k))
theorem gV_up {σ τ : kS} {n m : Nat} {w : Int32} (hm : n ≤ m) (e : ∀ z, z < n → τ 8 z = σ 8 z) (h : gV σ n w) : gV τ m w := by
  rcases h with q | ⟨z, z1, z2, z3⟩
  · exact Or.inl q
  · exact Or.inr ⟨z, by omega, z2, by rw [e z z1]; exact z3⟩
theorem nsI_c {σ τ : kS} {n n' S v : Nat} (h : nsI σ τ n n' S v) {c : Nat} (hc : c ∉ tC) (h17 : c ≠ 17) : τ c = σ c := by
  have := h.2.2.1.1 c hc
  rw [up_ne h17] at this
  exact this
theorem cnt_mono2 {f : Nat → Prop} {a b : Nat} (h : a ≤ b) : cnt f a ≤ cnt f b := by
  induction b with
  | zero =>
    obtain rfl : a = 0 := by omega
    exact Nat.le_refl _
  | succ b ih =>
    by_cases e : a = b + 1
    · subst e
      exact Nat.le_refl _
    · have h1 := ih (by omega)
      have h2 : cnt f b ≤ cnt f (b + 1) := by
        rw [cnt]
        omega
      omega
theorem ixo (S v : Nat) : nI (S * 7) + Int32.ofInt 1 + nI v = nI (7 * S + 1 + v) := by
  rw [show Int32.ofInt 1 = nI 1 from rfl, nI_add, nI_add, Nat.mul_comm S 7]
set_option maxRecDepth 100000 in
set_option maxHeartbeats 4000000 in
theorem mc_nsLoop (L : Nat) (xs : Nat → Int32) (d : Nat) (σ : kS) (n R S C r vc : Nat) (a b c : Int32) (h : cJ σ n R S C) (hS : S < 4) (hr : r < R) (hv6 : vc ≤ 6) (hvc : σ (23 + 35 * r) 3 = nI vc) (hso : ∀ k, k < vc → ∃ so, so ≤ 3 ∧ σ (25 + 35 * r) k = nI so ∧ (σ (24 + 35 * r) k = 1 → so ≤ 2)) (hP : cnt (fun k => σ (24 + 35 * r) k = 0) vc ≤ 3) (ha : 1 ≤ cnt (fun k => σ (24 + 35 * r) k = 0) vc → gV σ n a) (hb : 2 ≤ cnt (fun k => σ (24 + 35 * r) k = 0) vc → gV σ n b) (hc : 3 ≤ cnt (fun k => σ (24 + 35 * r) k = 0) vc → gV σ n c) (Q : Option Value → kS → Prop)
    (he : ∀ τ n' (ho : Int32), (ho = 0 ∨ ho = 1) → nsI σ τ n n' S 6 → kX kT L xs (d + 5) 14 197 [(8, .int ho), (0, .ref 13), (1, .int (nI r)), (5, .ref (23 + 35 * r))] [] τ Q) :
    ∀ q : Nat × kS × Nat × Int32, (q.1 ≤ 6 ∧ (q.2.2.2 = 0 ∨ q.2.2.2 = 1) ∧ nsI σ q.2.1 n q.2.2.1 S q.1) → kX kT L xs (d + 5) 14 53 [(9, .int (nI q.1)), (8, .int q.2.2.2), (7, .int (nI (cnt (fun k => σ (24 + 35 * r) k = 0) (min q.1 vc)))), (6, .int (nI (S * 7))), (0, .ref 13), (1, .int (nI r)), (2, .int a), (3, .int b), (4, .int c), (5, .ref (23 + 35 * r))] [] q.2.1 Q := by
  have hR4 := h.2.1.1
  have hr4 : r < 4 := by omega
  refine kX_while (fun q : Nat × kS × Nat × Int32 => [(9, .int (nI q.1)), (8, .int q.2.2.2), (7, .int (nI (cnt (fun k => σ (24 + 35 * r) k = 0) (min q.1 vc)))), (6, .int (nI (S * 7))), (0, .ref 13), (1, .int (nI r)), (2, .int a), (3, .int b), (4, .int c), (5, .ref (23 + 35 * r))]) (fun q => q.2.1) _ (fun q => 6 - q.1) ?_
  rintro ⟨v, τ, n', ho⟩ ⟨i1, i2, i3⟩ ih
  dsimp only at i1 i2 i3 ih ⊢
  have hT := i3.2.1
  have hn' := hT.1
  have e0 : τ (23 + 35 * r) = σ (23 + 35 * r) := nsI_c i3 (fun q => by have := tC_lt q; omega) (by omega)
  have e24 : τ (24 + 35 * r) = σ (24 + 35 * r) := nsI_c i3 (fun q => by have := tC_lt q; omega) (by omega)
  have e25 : τ (25 + 35 * r) = σ (25 + 35 * r) := nsI_c i3 (fun q => by have := tC_lt q; omega) (by omega)
  have hvc' : τ (23 + 35 * r) 3 = nI vc := by rw [e0]; exact hvc
  repeat refine kX_one rfl ?_
  refine kX_if (fun q => ?_) (fun q => ?_)
  · have q := qge q v 6
    obtain rfl : v = 6 := by omega
    exact kX_lv _ rfl rfl rfl (he τ n' ho i2 i3)
  · have q := qgeF q v 6
    have k177 : ∀ τ2 n2 (ho2 w : Int32) p, (ho2 = 0 ∨ ho2 = 1) → nsI σ τ2 n n2 S v → gV τ2 n2 w → p = cnt (fun k => σ (24 + 35 * r) k = 0) (min (v + 1) vc) → kX kT L xs (d + 5) 14 177 [(10, .int w), (9, .int (nI v)), (8, .int ho2), (7, .int (nI p)), (6, .int (nI (S * 7))), (0, .ref 13), (1, .int (nI r)), (2, .int a), (3, .int b), (4, .int c), (5, .ref (23 + 35 * r))] [] τ2 Q := by
      intro τ2 n2 ho2 w p ho3 j1 j2 j3
      subst j3
      iterate 8 (refine kX_one rfl ?_)
      refine kX_iastN rfl rfl (by decide) (7 * S + 1 + v) (ixo S v) (by omega) ?_
      iterate 2 (refine kX_one rfl ?_)
      have := ih (v + 1, va_up τ2 17 (upd (τ2 17) (7 * S + 1 + v) w), n2, ho2) ⟨q, ho3, j1.1, ?_, ?_, fun j hj => ?_, fun k hk => ?_⟩ (by simp only; omega)
      · dsimp only at this
        rw [← nI_1] at this
        exact kX_lv _ rfl rfl rfl this
      · exact cT_eq rfl rfl (fun u _ => ⟨rfl, rfl, rfl, rfl, rfl, rfl⟩) j1.2.1
      · simp only
        have : va_up (va_up τ2 17 (upd (τ2 17) (7 * S + 1 + v) w)) 17 (σ 17) = va_up τ2 17 (σ 17) := kup_up _ _ _ _
        rw [this]
        exact j1.2.2.1
      · simp only
        rw [up_eq, pk_un (by omega)]
        exact j1.2.2.2.1 j hj
      · simp only at hk ⊢
        rw [up_eq]
        show gV τ2 n2 _
        by_cases e : k = v
        · subst e
          rw [pk_us]
          exact j2
        · rw [pk_un (by omega)]
          exact j1.2.2.2.2 k (by omega)
    iterate 4 (refine kX_one rfl ?_)
    refine kX_cal (mc_roHas L xs (d + 3) τ r vc (nI v) hr4 hv6 hvc') rfl (Or.inr rfl) rfl (jcall_v rfl rfl rfl (kT_ro hr4) rfl rfl) rfl (fun r1 σ1 q1 => ?_)
    obtain ⟨rfl, rfl⟩ := q1
    by_cases hvv : v < vc
    · rw [isB_T ⟨v, hvv, rfl⟩]
      have hmin : min v vc = v := by omega
      have hmin2 : min (v + 1) vc = v + 1 := by omega
      rw [hmin]
      rw [hmin2] at k177
      obtain ⟨so, so1, so2, so3⟩ := hso v hvv
      have hcs : cnt (fun k => σ (24 + 35 * r) k = 0) (v + 1) ≤ cnt (fun k => σ (24 + 35 * r) k = 0) vc := cnt_mono2 hvv
      iterate 2 (refine kX_one rfl ?_)
      refine kX_getN rfl rfl (kT_ro hr4) rfl ?_
      iterate 1 (refine kX_one rfl ?_)
      refine kX_ialdN rfl (kT_ra hr4) (by decide) (v) (by first | rfl | decide) (q) ?_
      repeat refine kX_one rfl ?_
      refine kX_if (fun q2 => ?_) (fun q2 => ?_)
      · have q2 : σ (24 + 35 * r) v ≠ 0 := by
          have := qne q2
          rw [e24] at this
          exact this
        have hc0 : cnt (fun k => σ (24 + 35 * r) k = 0) v = cnt (fun k => σ (24 + 35 * r) k = 0) (v + 1) := by
          rw [cnt, if_neg q2]
          rfl
        rw [hc0]
        iterate 2 (refine kX_one rfl ?_)
        refine kX_cal (mc_roHas L xs (d + 3) τ r vc (nI v) hr4 hv6 hvc') rfl (Or.inr rfl) rfl (jcall_v rfl rfl rfl (kT_ro hr4) rfl rfl) rfl (fun r1 σ1 q1 => ?_)
        obtain ⟨rfl, rfl⟩ := q1
        rw [isB_T ⟨v, hvv, rfl⟩]
        iterate 2 (refine kX_one rfl ?_)
        refine kX_getN rfl rfl (kT_ro hr4) rfl ?_
        iterate 1 (refine kX_one rfl ?_)
        refine kX_ialdN rfl (kT_ra hr4) (by decide) (v) (by first | rfl | decide) (q) ?_
        iterate 1 (refine kX_one rfl ?_)
        repeat refine kX_one rfl ?_
        refine kX_if (fun q3 => ?_) (fun q3 => ?_)
        · exact kX_lv _ rfl rfl rfl (k177 τ n' ho (-1) _ i2 i3 (Or.inl rfl) rfl)
        · have q3 : σ (24 + 35 * r) v = 1 := by
            have := qneF q3
            rw [e24] at this
            exact this
          iterate 3 (refine kX_one rfl ?_)
          refine kX_getN rfl rfl (kT_ro hr4) rfl ?_
          iterate 1 (refine kX_one rfl ?_)
          refine kX_ialdV rfl (kT_rs hr4) (by decide) (v) (by first | rfl | decide) (q) ((congrFun e25 v).trans so2) ?_
          iterate 1 (refine kX_one rfl ?_)
          refine kX_cal (mc_newAtom L xs d τ n' so 0 hT (so3 q3) (Or.inl rfl)) rfl (Or.inr rfl) rfl rfl rfl (fun r1 τ2 q1 => ?_)
          rcases q1 with ⟨-, rfl, rfl⟩ | ⟨hlt, rfl, g1, g2, g3, -⟩
          · iterate 1 (refine kX_one rfl ?_)
            exact kX_lv _ rfl rfl rfl (k177 τ n' ho (-1) _ i2 i3 (Or.inl rfl) rfl)
          · iterate 1 (refine kX_one rfl ?_)
            refine kX_lv _ rfl rfl rfl (k177 τ2 (n' + 1) ho (nI n') _ i2 ⟨by have := i3.1; omega, g1, ?_, fun j hj => ?_, fun k hk => ?_⟩ (Or.inr ⟨n', by omega, rfl, g3⟩) rfl)
            · have hG := i3.2.2.1
              have h17 := g2.1 17 (by decide)
              refine ⟨fun c hc => ?_, fun u hu => ?_, fun g hg => ?_⟩
              · by_cases e : c = 17
                · subst e
                  rw [up_eq]
                · rw [up_ne e, g2.1 c hc]
                  have := hG.1 c hc
                  rw [up_ne e] at this
                  exact this
              · exact (g2.2.1 u (by have := i3.1; omega)).trans (hG.2.1 u hu)
              · have := hG.2.2 g hg
                have g4 := g2.2.2 g hg
                exact ⟨g4.1.trans this.1, g4.2.1.trans this.2.1, g4.2.2.1.trans this.2.2.1, g4.2.2.2.trans this.2.2.2⟩
            · rw [g2.1 17 (by decide)]
              exact i3.2.2.2.1 j hj
            · rw [g2.1 17 (by decide)]
              exact gV_up (by omega) g2.2.1 (i3.2.2.2.2 k hk)
      · have q2 : σ (24 + 35 * r) v = 0 := by
          have := qneF q2
          rw [e24] at this
          exact this
        have hc1 : cnt (fun k => σ (24 + 35 * r) k = 0) (v + 1) = cnt (fun k => σ (24 + 35 * r) k = 0) v + 1 := by
          rw [cnt, if_pos q2]
        rw [hc1] at k177 hcs
        generalize hp : cnt (fun k => σ (24 + 35 * r) k = 0) v = p at *
        have hgv : ∀ w, gV σ n w → gV τ n' w := fun w hw => gV_up i3.1 (fun z hz => i3.2.2.1.2.1 z hz) hw
        have k105 : ∀ w, gV σ n w → kX kT L xs (d + 5) 14 105 [(10, .int (-1)), (9, .int (nI v)), (8, .int ho), (7, .int (nI p)), (6, .int (nI (S * 7))), (0, .ref 13), (1, .int (nI r)), (2, .int a), (3, .int b), (4, .int c), (5, .ref (23 + 35 * r))] [.int w] τ Q := by
          intro w hw
          have k129 : ∀ ho2 : Int32, (ho2 = 0 ∨ ho2 = 1) → kX kT L xs (d + 5) 14 129 [(10, .int w), (9, .int (nI v)), (8, .int ho), (7, .int (nI p)), (6, .int (nI (S * 7))), (0, .ref 13), (1, .int (nI r)), (2, .int a), (3, .int b), (4, .int c), (5, .ref (23 + 35 * r))] [.int ho2] τ Q := by
            intro ho2 hh
            iterate 3 (refine kX_one rfl ?_)
            have := k177 τ n' ho2 w (p + 1) hh i3 (hgv w hw) rfl
            rw [← nI_1] at this
            exact kX_lv _ rfl rfl rfl this
          iterate 2 (refine kX_one rfl ?_)
          repeat refine kX_one rfl ?_
          refine kX_if (fun q3 => ?_) (fun q3 => ?_)
          · iterate 1 (refine kX_one rfl ?_)
            exact kX_lv _ rfl rfl rfl (k129 0 (Or.inl rfl))
          · iterate 3 (refine kX_one rfl ?_)
            refine kX_cal (mc_isHonest L xs (d + 1) τ n' w hn' hT.2.1) rfl (Or.inr rfl) rfl rfl rfl (fun r1 σ1 q1 => ?_)
            obtain ⟨rfl, rfl⟩ := q1
            repeat refine kX_one rfl ?_
            refine kX_if (fun q4 => ?_) (fun q4 => ?_)
            · iterate 1 (refine kX_one rfl ?_)
              exact kX_lv _ rfl rfl rfl (k129 0 (Or.inl rfl))
            · iterate 2 (refine kX_one rfl ?_)
              exact kX_lv _ rfl rfl rfl (k129 1 (Or.inr rfl))
        repeat refine kX_one rfl ?_
        refine kX_if (fun q3 => ?_) (fun q3 => ?_)
        · have q3 : p ≠ 0 := fun e => qne q3 (by rw [e]; rfl)
          repeat refine kX_one rfl ?_
          refine kX_if (fun q4 => ?_) (fun q4 => ?_)
          · have q4 : p ≠ 1 := fun e => qne q4 (by rw [e]; rfl)
            iterate 1 (refine kX_one rfl ?_)
            exact kX_lv _ rfl rfl rfl (k105 c (hc (by omega)))
          · have q4 : p = 1 := nI_inj (qneF q4)
            iterate 2 (refine kX_one rfl ?_)
            exact kX_lv _ rfl rfl rfl (k105 b (hb (by omega)))
        · have q3 : p = 0 := nI_inj (qneF q3)
          iterate 2 (refine kX_one rfl ?_)
          exact kX_lv _ rfl rfl rfl (k105 a (ha (by omega)))
    · rw [isB_F (fun z => by obtain ⟨j, j1, j2⟩ := z; have := nI_inj j2; omega)]
      have hmin : min v vc = vc := by omega
      have hmin2 : min (v + 1) vc = vc := by omega
      rw [hmin]
      rw [hmin2] at k177
      iterate 3 (refine kX_one rfl ?_)
      refine kX_cal (mc_roHas L xs (d + 3) τ r vc (nI v) hr4 hv6 hvc') rfl (Or.inr rfl) rfl (jcall_v rfl rfl rfl (kT_ro hr4) rfl rfl) rfl (fun r1 σ1 q1 => ?_)
      obtain ⟨rfl, rfl⟩ := q1
      rw [isB_F (fun z => by obtain ⟨j, j1, j2⟩ := z; have := nI_inj j2; omega)]
      iterate 1 (refine kX_one rfl ?_)
      exact kX_lv _ rfl rfl rfl (k177 τ n' ho (-1) _ i2 i3 (Or.inl rfl) rfl)
end
section
/-! the class: session -/
set_option maxRecDepth 100000 in
set_option maxHeartbeats 4000000 in
theorem mc_newSession (L : Nat) (xs : Nat → Int32) (d : Nat) (σ : kS) (n R S C r vc : Nat) (a b c : Int32) (h : cJ σ n R S C) (hS : S < 4) (hr : r < R) (hv6 : vc ≤ 6) (hvc : σ (23 + 35 * r) 3 = nI vc) (hP : cnt (fun k => σ (24 + 35 * r) k = 0) vc ≤ 3) (ha : 1 ≤ cnt (fun k => σ (24 + 35 * r) k = 0) vc → gV σ n a) (hb : 2 ≤ cnt (fun k => σ (24 + 35 * r) k = 0) vc → gV σ n b) (hc : 3 ≤ cnt (fun k => σ (24 + 35 * r) k = 0) vc → gV σ n c) (hon : σ 181 8 = 0) (hw : σ 196 5 = 0) (hl : σ 195 9 = -1) :
    kXM kT L xs (d + 5) 14 [.ref 13, .int (nI r), .int a, .int b, .int c] σ (fun r σ' => (∃ x, r = some (.int x)) ∧ cAfter σ σ' R) := by
  have hR := h.2.1
  have hR4 := hR.1
  have hr4 : r < 4 := by omega
  have hSe := h.2.2.1
  obtain ⟨vc', ev, v1, e1, v2, e2, so1, ev1⟩ := hR.2.2 r hr
  obtain rfl : vc = vc' := nI_inj (hvc.symm.trans v2)
  unfold kXM
  iterate 2 (refine kX_one rfl ?_)
  refine kX_top (hSe.2.1) ?_
  iterate 1 (refine kX_one rfl ?_)
  repeat refine kX_one rfl ?_
  refine kX_if (fun q => ?_) (fun q => ?_)
  · have q := qge q S 4
    omega
  · iterate 2 (refine kX_one rfl ?_)
    refine kX_cal (mc_hasRole L xs (d + 3) σ R (nI r) hR4 hR.2.1) rfl (Or.inr rfl) rfl rfl rfl (fun r1 σ1 q1 => ?_)
    obtain ⟨rfl, rfl⟩ := q1
    repeat refine kX_one rfl ?_
    refine kX_ifT (by rw [isB_T ⟨r, hr, rfl⟩]; rfl) ?_
    iterate 3 (refine kX_one rfl ?_)
    refine kX_aaldN rfl (rfl) (by decide) (by decide) (by decide) (r) (by first | rfl | decide) (hr4) (ro_at hr4) ?_
    iterate 3 (refine kX_one rfl ?_)
    refine kX_top (hSe.2.1) ?_
    iterate 2 (refine kX_one rfl ?_)
    refine kX_top (y := nI (S * 7)) (by show nI S * nI 7 = _; rw [pk_mul]) ?_
    iterate 9 (refine kX_one rfl ?_)
    refine kX_iastN rfl rfl (by decide) (S * 7) (by first | rfl | decide) (by omega) ?_
    iterate 2 (refine kX_one rfl ?_)
    have hl := mc_nsLoop L xs d σ n R S C r vc a b c h hS hr hv6 hvc so1 hP ha hb hc (fun r σ' => (∃ x, r = some (.int x)) ∧ cAfter σ σ' R) (fun τ n' ho hho hI => ?_) (0, va_up σ 17 (upd (σ 17) (S * 7) 0), n, 1) ⟨Nat.zero_le _, Or.inr rfl, Nat.le_refl _, ?_, ?_, fun j hj => ?_, fun k hk => absurd hk (Nat.not_lt_zero k)⟩
    · dsimp only at hl
      rw [show min 0 vc = 0 by omega] at hl
      exact kX_lv _ rfl rfl rfl hl
    · have e0 : τ (23 + 35 * r) = σ (23 + 35 * r) := nsI_c hI (fun q => by have := tC_lt q; omega) (by omega)
      have e13 : τ 13 = σ 13 := nsI_c hI (by decide) (by decide)
      have hT := hI.2.1
      have hG := hI.2.2.1
      have h13 : ∀ j, va_up τ (23 + 35 * r) (upd (τ (23 + 35 * r)) 6 (Int32.ofInt 1)) 13 j = σ 13 j := fun j => by rw [up_ne (by omega), e13]
      iterate 2 (refine kX_one rfl ?_)
      refine kX_putN rfl rfl (kT_ro hr4) rfl (rfl) rfl ?_
      have hx0 : va_up τ (23 + 35 * r) (upd (τ (23 + 35 * r)) 6 (Int32.ofInt 1)) (23 + 35 * r) = upd (σ (23 + 35 * r)) 6 (Int32.ofInt 1) := by rw [up_eq, e0]
      have hx1 : ∀ c, c ≠ 23 + 35 * r → va_up τ (23 + 35 * r) (upd (τ (23 + 35 * r)) 6 (Int32.ofInt 1)) c = τ c := fun c hc => up_ne hc
      generalize va_up τ (23 + 35 * r) (upd (τ (23 + 35 * r)) 6 (Int32.ofInt 1)) = ρ at *
      iterate 4 (refine kX_one rfl ?_)
      refine kX_top (y := nI S) (by rw [h13]; exact hSe.2.1) ?_
      iterate 1 (refine kX_one rfl ?_)
      refine kX_iastN rfl rfl (by decide) (S) (by first | rfl | decide) (hS) ?_
      iterate 4 (refine kX_one rfl ?_)
      refine kX_top (y := nI S) ((h13 6).trans hSe.2.1) ?_
      iterate 1 (refine kX_one rfl ?_)
      refine kX_bastN rfl rfl (by decide) (S) (by first | rfl | decide) (hS) (hho) ?_
      iterate 3 (refine kX_one rfl ?_)
      refine kX_top (y := nI S) ((h13 6).trans hSe.2.1) ?_
      iterate 3 (refine kX_one rfl ?_)
      refine kX_st (va_up (va_up (va_up ρ 15 (upd (ρ 15) S (nI r))) 16 (upd (ρ 16) S ho)) 13 (upd (ρ 13) 6 (nI (S + 1)))) (by rw [← nI_1]; rfl) ?_
      repeat refine kX_one rfl ?_
      have hall : ∀ e, e ≠ 13 → e ≠ 15 → e ≠ 16 → e ≠ 23 + 35 * r → va_up (va_up (va_up ρ 15 (upd (ρ 15) S (nI r))) 16 (upd (ρ 16) S ho)) 13 (upd (ρ 13) 6 (nI (S + 1))) e = τ e := fun e x1 x2 x3 x4 => by
        rw [up_ne x1, up_ne x3, up_ne x2, hx1 e x4]
      have hhi : ∀ e, 163 ≤ e → va_up (va_up (va_up ρ 15 (upd (ρ 15) S (nI r))) 16 (upd (ρ 16) S ho)) 13 (upd (ρ 13) 6 (nI (S + 1))) e = σ e := fun e he => by
        rw [hall e (by omega) (by omega) (by omega) (by omega)]
        exact nsI_c hI (fun q => by have := tC_lt q; omega) (by omega)
      have hlo : ∀ e, e < 13 → va_up (va_up (va_up ρ 15 (upd (ρ 15) S (nI r))) 16 (upd (ρ 16) S ho)) 13 (upd (ρ 13) 6 (nI (S + 1))) e = τ e := fun e he => hall e (by omega) (by omega) (by omega) (by omega)
      have h13' : ∀ j, j ≠ 6 → va_up (va_up (va_up ρ 15 (upd (ρ 15) S (nI r))) 16 (upd (ρ 16) S ho)) 13 (upd (ρ 13) 6 (nI (S + 1))) 13 j = σ 13 j := fun j hj => by
        rw [up_eq, pk_un hj]
        exact h13 j
      have hsc : va_up (va_up (va_up ρ 15 (upd (ρ 15) S (nI r))) 16 (upd (ρ 16) S ho)) 13 (upd (ρ 13) 6 (nI (S + 1))) 13 6 = nI (S + 1) := rfl
      have hsr : va_up (va_up (va_up ρ 15 (upd (ρ 15) S (nI r))) 16 (upd (ρ 16) S ho)) 13 (upd (ρ 13) 6 (nI (S + 1))) 15 = upd (σ 15) S (nI r) := by
        rw [up_ne (by decide), up_ne (by decide), up_eq, hx1 _ (by omega), nsI_c hI (by decide) (by decide)]
      have hro : va_up (va_up (va_up ρ 15 (upd (ρ 15) S (nI r))) 16 (upd (ρ 16) S ho)) 13 (upd (ρ 13) 6 (nI (S + 1))) (23 + 35 * r) = upd (σ (23 + 35 * r)) 6 (Int32.ofInt 1) := by
        rw [up_ne (by omega), up_ne (by omega), up_ne (by omega), hx0]
      generalize va_up (va_up (va_up ρ 15 (upd (ρ 15) S (nI r))) 16 (upd (ρ 16) S ho)) 13 (upd (ρ 13) 6 (nI (S + 1))) = ω at *
      have hgs : ∀ z, z < n → ω 8 z = σ 8 z := fun z hz => by
        rw [hlo _ (by decide)]
        exact hG.2.1 z hz
      have hgt : ∀ g, 200 ≤ g → ω 2 g = σ 2 g ∧ ω 3 g = σ 3 g ∧ ω 4 g = σ 4 g ∧ ω 6 g = σ 6 g := fun g hg => by
        rw [hlo 2 (by decide), hlo 3 (by decide), hlo 4 (by decide), hlo 6 (by decide)]
        exact hG.2.2 g hg
      obtain ⟨g1, g2, g3, g4, g5, g6, g7, g8, g9, g10, g11⟩ := h
      have hmid : ∀ e, 17 < e → e ≠ 23 + 35 * r → ω e = σ e := fun e x1 x2 => by
        rw [hall e (by omega) (by omega) (by omega) x2]
        exact nsI_c hI (fun q => by have := tC_lt q; omega) (by omega)
      refine kX_ret (i := .ireturn) (len := 1) rfl (Or.inr rfl) rfl ⟨⟨_, rfl⟩, fun e he => hhi e (by omega), n', S + 1, C, cT_eq (by rw [hlo 1 (by decide)]) (hlo _ (by decide)) (fun u _ => ?_) hT, ⟨g2.1, (h13' _ (by decide)).trans g2.2.1, fun r' hr' => ?_⟩, ⟨by omega, hsc, fun s hs => ?_, fun s k hs hk => ?_⟩, cCl_eq (h13' _ (by decide)) (fun e x1 x2 => hhi e (by omega)) g4, cKn_eq (h13' _ (by decide)) g5, cKw_eq (by decide) (hhi _ (by decide)) (hhi _ (by decide)) (hhi _ (by decide)) hgt g6, cKw_eq (by decide) (hhi _ (by decide)) (hhi _ (by decide)) (hhi _ (by decide)) hgt g7, cKw_eq (by decide) (hhi _ (by decide)) (hhi _ (by decide)) (hhi _ (by decide)) hgt g8, Or.inl ?_, cSr_0 ?_ ?_, cQ_eq (hhi _ (by decide)) (hhi _ (by decide)) g11⟩
      · rw [hlo 2 (by decide), hlo 3 (by decide), hlo 4 (by decide), hlo 8 (by decide), hlo 12 (by decide), hlo 6 (by decide)]
        exact ⟨rfl, rfl, rfl, rfl, rfl, rfl⟩
      · obtain ⟨v', ev', a1, a2, a3, a4, a5, a6⟩ := g2.2.2 r' hr'
        refine ⟨v', ev', a1, a2, ?_, ?_, ?_, fun k hk => cE_up hI.1 (fun i hi => hmid _ (by omega) (by omega)) (a6 k hk)⟩
        · by_cases e : r' = r
          · subst e
            rw [hro]
            exact a3
          · rw [hmid _ (by omega) (by omega)]
            exact a3
        · by_cases e : r' = r
          · subst e
            rw [hro]
            exact a4
          · rw [hmid _ (by omega) (by omega)]
            exact a4
        · rw [hmid (25 + 35 * r') (by omega) (by omega), hmid (24 + 35 * r') (by omega) (by omega)]
          exact a5
      · rw [hsr]
        by_cases e : s = S
        · subst e
          exact ⟨r, hr, pk_us⟩
        · rw [pk_un e]
          exact g3.2.2.1 s (by omega)
      · have e17 : ω 17 = τ 17 := hall _ (by decide) (by decide) (by decide) (by omega)
        rw [e17]
        have egr : ∀ z, ω 8 z = τ 8 z := fun z => by rw [hlo _ (by decide)]
        by_cases e : s = S
        · subst e
          have := hI.2.2.2.2 k hk
          rw [show 0 + 7 * s + 1 + k = 7 * s + 1 + k by omega]
          rcases this with q | ⟨z, z1, z2, z3⟩
          · exact Or.inl q
          · exact Or.inr ⟨z, z1, z2, (egr z).trans z3⟩
        · rw [hI.2.2.2.1 _ (by omega)]
          rcases g3.2.2.2 s k (by omega) hk with q | ⟨z, z1, z2, z3⟩
          · exact Or.inl q
          · have := hI.1
            exact Or.inr ⟨z, by omega, z2, (hgs z z1).trans z3⟩
      · rw [hhi 181 (by decide)]
        exact hon
      · rw [hhi 196 (by decide)]
        exact hw
      · rw [hhi 195 (by decide)]
        exact hl
    · exact cT_eq rfl rfl (fun u _ => ⟨rfl, rfl, rfl, rfl, rfl, rfl⟩) h.1
    · simp only
      have : va_up (va_up σ 17 (upd (σ 17) (S * 7) 0)) 17 (σ 17) = σ := by
        rw [kup_up, kup_self]
      rw [this]
      exact cGr_refl σ n
    · simp only
      rw [up_eq, pk_un (by omega)]
end
