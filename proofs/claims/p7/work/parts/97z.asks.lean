/-! the class: what hangs on which cells; simple calls -/
theorem cT_eq {σ τ : kS} {n : Nat} (e0 : τ 1 11 = σ 1 11) (e1 : τ 7 = σ 7) (e : ∀ u, u < n → τ 2 u = σ 2 u ∧ τ 3 u = σ 3 u ∧ τ 4 u = σ 4 u ∧ τ 8 u = σ 8 u ∧ τ 12 u = σ 12 u ∧ τ 6 u = σ 6 u) (h : cT σ n) : cT τ n := by
  obtain ⟨a1, a2, a3, a4⟩ := h
  refine ⟨a1, e0.trans a2, fun s hs => ?_, fun t ht => cTt_eq (fun u hu => e u (by omega)) (a4 t ht)⟩
  rw [e1]
  rcases a3 s hs with q | ⟨t, t1, t2, t3⟩
  · exact Or.inl q
  · exact Or.inr ⟨t, t1, t2, by rw [(e t t1).1]; exact t3⟩
theorem cV_eq {σ τ : kS} {n S base : Nat} {A : Nat → Int32} (e : ∀ z, z < n → τ 8 z = σ 8 z) (h : cV σ n S A base) : cV τ n S A base := fun s k hs hk => by
  rcases h s k hs hk with q | ⟨z, z1, z2, z3⟩
  · exact Or.inl q
  · exact Or.inr ⟨z, z1, z2, by rw [e z z1]; exact z3⟩
theorem cSe_eq {σ τ : kS} {n R S : Nat} (e : ∀ z, z < n → τ 8 z = σ 8 z) (e1 : τ 13 6 = σ 13 6) (e2 : τ 15 = σ 15) (e3 : τ 17 = σ 17) (h : cSe σ n R S) : cSe τ n R S := by
  obtain ⟨a1, a2, a3, a4⟩ := h
  refine ⟨a1, e1.trans a2, by rw [e2]; exact a3, ?_⟩
  rw [e3]
  exact cV_eq e a4
theorem cCl_eq {σ τ : kS} {C : Nat} (e1 : τ 13 8 = σ 13 8) (e : ∀ c, 163 ≤ c → c < 181 → τ c = σ c) (h : cCl σ C) : cCl τ C := by
  obtain ⟨a1, a2, a3⟩ := h
  refine ⟨a1, e1.trans a2, fun c hc => ?_⟩
  rw [e (163 + 3 * c) (by omega) (by omega), e (164 + 3 * c) (by omega) (by omega), e (165 + 3 * c) (by omega) (by omega)]
  exact a3 c hc
theorem cKn_eq {σ τ : kS} (e1 : τ 13 10 = σ 13 10) (h : cKn σ) : cKn τ := by
  obtain ⟨k, k1, k2⟩ := h
  exact ⟨k, k1, e1.trans k2⟩
theorem cKg_eq {σ τ : kS} {n st u : Nat} (e : ∀ z, z < n → τ 8 z = σ 8 z) (e2 : ∀ g, st ≤ g → g < st + u → τ 3 g = σ 3 g ∧ τ 4 g = σ 4 g) (h : cKg σ n st u) : cKg τ n st u := fun g g1 g2 => by
  rw [(e2 g g1 g2).1, (e2 g g1 g2).2]
  have key : ∀ c, cKc σ n c → cKc τ n c := fun c hc => by
    rcases hc with q | ⟨z, z1, z2, z3⟩ | q
    · exact Or.inl q
    · exact Or.inr (Or.inl ⟨z, z1, z2, by rw [e z z1]; exact z3⟩)
    · exact Or.inr (Or.inr q)
  exact ⟨key _ (h g g1 g2).1, key _ (h g g1 g2).2⟩
theorem cRu_eq {σ τ : kS} {n S : Nat} (e : ∀ z, z < n → τ 8 z = σ 8 z) (e1 : τ 181 = σ 181) (e2 : τ 183 = σ 183) (e3 : τ 182 = σ 182) (e4 : τ 186 3 = σ 186 3) (e5 : ∀ g, 200 ≤ g → g < 776 → τ 3 g = σ 3 g ∧ τ 4 g = σ 4 g) (h : cRu σ n S) : cRu τ n S := by
  unfold cRu
  rw [e1, e2, e3, e4]
  rcases h with q | ⟨q1, q2, q3, q4⟩
  · exact Or.inl q
  · refine Or.inr ⟨q1, q2, cV_eq e q3, ?_⟩
    rcases q4 with q4 | ⟨g, g1, g2, g3⟩
    · exact Or.inl q4
    · refine Or.inr ⟨g, g1, g2, fun hg => ?_⟩
      obtain ⟨u, u1, u2, u3⟩ := g3 hg
      exact ⟨u, u1, u2, cKg_eq e (fun g x1 x2 => e5 g x1 (by omega)) u3⟩
theorem cSr_eq {σ τ : kS} {n S : Nat} (e : ∀ z, z < n → τ 8 z = σ 8 z) (e1 : τ 196 5 = σ 196 5) (e2 : τ 197 = σ 197) (e3 : τ 198 = σ 198) (e4 : τ 199 = σ 199) (e5 : τ 195 9 = σ 195 9) (e6 : τ 203 = σ 203) (h : cSr σ n S) : cSr τ n S := by
  obtain ⟨N, a1, a2, a3, a4, a5⟩ := h
  refine ⟨N, a1, e1.trans a2, fun i hi => ?_, by rw [e3, e4]; exact a4, by rw [e5, e6]; exact a5⟩
  rw [e2]
  exact cV_eq e (a3 i hi)
theorem cQ_eq {σ τ : kS} (e1 : τ 231 = σ 231) (e2 : τ 222 = σ 222) (h : cQ σ) : cQ τ := by
  unfold cQ
  rw [e1, e2]
  exact h
/-- cells above all that the TERMS, ROLES .. have: the run's -/
theorem cJ_run {σ τ : kS} {n R S C : Nat} (h : cJ σ n R S C) (e : ∀ c, c < 181 ∨ 186 ≤ c → τ c = σ c) (hr : cRu τ n S) : cJ τ n R S C := by
  obtain ⟨h1, h2, h3, h4, h5, h6, h7, h8, h9, h10, h11⟩ := h
  have el : ∀ c, c < 181 → τ c = σ c := fun c hc => e c (Or.inl hc)
  have eh : ∀ c, 186 ≤ c → τ c = σ c := fun c hc => e c (Or.inr hc)
  have hg : ∀ z, z < n → τ 8 z = σ 8 z := fun z _ => by rw [el _ (by decide)]
  have hgt : ∀ g, 200 ≤ g → τ 2 g = σ 2 g ∧ τ 3 g = σ 3 g ∧ τ 4 g = σ 4 g ∧ τ 6 g = σ 6 g := fun g _ => by
    rw [el 2 (by decide), el 3 (by decide), el 4 (by decide), el 6 (by decide)]
    exact ⟨rfl, rfl, rfl, rfl⟩
  refine ⟨cT_eq (by rw [el 1 (by decide)]) (el _ (by decide)) (fun u _ => ?_) h1, cRo_gr (Nat.le_refl _) (fun c c1 c2 => el c (by omega)) h2, cSe_eq hg (by rw [el 13 (by decide)]) (el _ (by decide)) (el _ (by decide)) h3, cCl_eq (by rw [el 13 (by decide)]) (fun c c1 c2 => el c (by omega)) h4, cKn_eq (by rw [el 13 (by decide)]) h5, cKw_eq (by decide) (eh _ (by decide)) (eh _ (by decide)) (eh _ (by decide)) hgt h6, cKw_eq (by decide) (eh _ (by decide)) (eh _ (by decide)) (eh _ (by decide)) hgt h7, cKw_eq (by decide) (eh _ (by decide)) (eh _ (by decide)) (eh _ (by decide)) hgt h8, hr, cSr_eq hg (by rw [eh 196 (by decide)]) (eh _ (by decide)) (eh _ (by decide)) (eh _ (by decide)) (by rw [eh 195 (by decide)]) (eh _ (by decide)) h10, cQ_eq (eh _ (by decide)) (eh _ (by decide)) h11⟩
  rw [el 2 (by decide), el 3 (by decide), el 4 (by decide), el 8 (by decide), el 12 (by decide), el 6 (by decide)]
  exact ⟨rfl, rfl, rfl, rfl, rfl, rfl⟩
set_option maxRecDepth 100000 in
set_option maxHeartbeats 4000000 in
theorem mk_about (L : Nat) (xs : Nat → Int32) (d : Nat) (σ : kS) (n R S C : Nat) (x w : Int32) (h : cJ σ n R S C) : kXM kT L xs (d + 2) 113 [.ref 0, .int x, .int w] σ (fun r σ' => (∃ x, r = some (.int x)) ∧ cAfter σ σ' R) := by
  have hT := h.1
  have hn := hT.1
  unfold kXM
  iterate 3 (refine kX_one rfl ?_)
  refine kX_cal (mc_has L xs d σ n x hn hT.2.1) rfl (Or.inr rfl) rfl rfl rfl (fun r1 σ1 q1 => ?_)
  obtain ⟨rfl, rfl⟩ := q1
  repeat refine kX_one rfl ?_
  refine kX_if (fun q => ?_) (fun q => ?_)
  · obtain ⟨t, ht, rfl⟩ := isB_ne.mp (qne q)
    repeat refine kX_one rfl ?_
    refine kX_if (fun q2 => ?_) (fun q2 => ?_)
    · repeat refine kX_one rfl ?_
      refine kX_ret (i := .ireturn) (len := 1) rfl (Or.inr rfl) rfl (⟨⟨_, rfl⟩, cAfter_same h⟩)
    · have q2 : ¬ w < 0 := of_decide_eq_false q2
      obtain ⟨k, hk, rfl⟩ := nI_of q2
      repeat refine kX_one rfl ?_
      refine kX_if (fun q3 => ?_) (fun q3 => ?_)
      · have q3 := qle q3 k 8
        iterate 4 (refine kX_one rfl ?_)
        refine kX_ialdN rfl rfl (by decide) (t) (by first | rfl | decide) (by omega) ?_
        have : k = 0 ∨ k = 1 ∨ k = 2 ∨ k = 3 ∨ k = 4 ∨ k = 5 ∨ k = 6 ∨ k = 7 ∨ k = 8 := by omega
        rcases this with rfl | rfl | rfl | rfl | rfl | rfl | rfl | rfl | rfl
        · repeat refine kX_one rfl ?_
          refine kX_ret (i := .ireturn) (len := 1) rfl (Or.inr rfl) rfl (⟨⟨_, rfl⟩, cAfter_same h⟩)
        · repeat refine kX_one rfl ?_
          refine kX_ialdN rfl rfl (by decide) (t) (by first | rfl | decide) (by omega) ?_
          refine kX_cal (mc_orNone L xs d σ _) rfl (Or.inr rfl) rfl rfl rfl (fun r1 σ1 q1 => ?_)
          obtain ⟨rfl, rfl⟩ := q1
          refine kX_ret (i := .ireturn) (len := 1) rfl (Or.inr rfl) rfl (⟨⟨_, rfl⟩, cAfter_same h⟩)
        · repeat refine kX_one rfl ?_
          refine kX_ialdN rfl rfl (by decide) (t) (by first | rfl | decide) (by omega) ?_
          refine kX_cal (mc_orNone L xs d σ _) rfl (Or.inr rfl) rfl rfl rfl (fun r1 σ1 q1 => ?_)
          obtain ⟨rfl, rfl⟩ := q1
          refine kX_ret (i := .ireturn) (len := 1) rfl (Or.inr rfl) rfl (⟨⟨_, rfl⟩, cAfter_same h⟩)
        · repeat refine kX_one rfl ?_
          refine kX_ialdN rfl rfl (by decide) (t) (by first | rfl | decide) (by omega) ?_
          refine kX_ret (i := .ireturn) (len := 1) rfl (Or.inr rfl) rfl (⟨⟨_, rfl⟩, cAfter_same h⟩)
        · repeat refine kX_one rfl ?_
          refine kX_baldN rfl rfl (by decide) (t) (by first | rfl | decide) (by omega) ?_
          refine kX_cal (mc_asNumber L xs d σ _) rfl (Or.inr rfl) rfl rfl rfl (fun r1 σ1 q1 => ?_)
          obtain ⟨rfl, rfl⟩ := q1
          refine kX_ret (i := .ireturn) (len := 1) rfl (Or.inr rfl) rfl (⟨⟨_, rfl⟩, cAfter_same h⟩)
        · repeat refine kX_one rfl ?_
          refine kX_if (fun q4 => ?_) (fun q4 => ?_)
          · repeat refine kX_one rfl ?_
            refine kX_ret (i := .ireturn) (len := 1) rfl (Or.inr rfl) rfl (⟨⟨_, rfl⟩, cAfter_same h⟩)
          · repeat refine kX_one rfl ?_
            refine kX_baldN rfl rfl (by decide) (t) (by first | rfl | decide) (by omega) ?_
            refine kX_cal (mc_asNumber L xs d σ _) rfl (Or.inr rfl) rfl rfl rfl (fun r1 σ1 q1 => ?_)
            obtain ⟨rfl, rfl⟩ := q1
            repeat refine kX_one rfl ?_
            refine kX_ret (i := .ireturn) (len := 1) rfl (Or.inr rfl) rfl (⟨⟨_, rfl⟩, cAfter_same h⟩)
        · repeat refine kX_one rfl ?_
          refine kX_if (fun q4 => ?_) (fun q4 => ?_)
          · repeat refine kX_one rfl ?_
            refine kX_ret (i := .ireturn) (len := 1) rfl (Or.inr rfl) rfl (⟨⟨_, rfl⟩, cAfter_same h⟩)
          · repeat refine kX_one rfl ?_
            refine kX_ialdN rfl rfl (by decide) (t) (by first | rfl | decide) (by omega) ?_
            repeat refine kX_one rfl ?_
            refine kX_ret (i := .ireturn) (len := 1) rfl (Or.inr rfl) rfl (⟨⟨_, rfl⟩, cAfter_same h⟩)
        · repeat refine kX_one rfl ?_
          refine kX_if (fun q4 => ?_) (fun q4 => ?_)
          · repeat refine kX_one rfl ?_
            refine kX_ret (i := .ireturn) (len := 1) rfl (Or.inr rfl) rfl (⟨⟨_, rfl⟩, cAfter_same h⟩)
          · repeat refine kX_one rfl ?_
            refine kX_ialdN rfl rfl (by decide) (t) (by first | rfl | decide) (by omega) ?_
            repeat refine kX_one rfl ?_
            refine kX_ret (i := .ireturn) (len := 1) rfl (Or.inr rfl) rfl (⟨⟨_, rfl⟩, cAfter_same h⟩)
        · repeat refine kX_one rfl ?_
          refine kX_if (fun q4 => ?_) (fun q4 => ?_)
          · repeat refine kX_one rfl ?_
            refine kX_ret (i := .ireturn) (len := 1) rfl (Or.inr rfl) rfl (⟨⟨_, rfl⟩, cAfter_same h⟩)
          · repeat refine kX_one rfl ?_
            refine kX_ialdN rfl rfl (by decide) (t) (by first | rfl | decide) (by omega) ?_
            repeat refine kX_one rfl ?_
            refine kX_ret (i := .ireturn) (len := 1) rfl (Or.inr rfl) rfl (⟨⟨_, rfl⟩, cAfter_same h⟩)
      · repeat refine kX_one rfl ?_
        refine kX_ret (i := .ireturn) (len := 1) rfl (Or.inr rfl) rfl (⟨⟨_, rfl⟩, cAfter_same h⟩)
  · repeat refine kX_one rfl ?_
    refine kX_ret (i := .ireturn) (len := 1) rfl (Or.inr rfl) rfl (⟨⟨_, rfl⟩, cAfter_same h⟩)
set_option maxRecDepth 100000 in
set_option maxHeartbeats 4000000 in
theorem mc_hasAttack (L : Nat) (xs : Nat → Int32) (d : Nat) (σ : kS) : kXM kT L xs (d + 1) 77 [.ref 195] σ (fun r σ' => r = some (.int (isB (σ 195 9 ≠ -1))) ∧ σ = σ') := by
  unfold kXM
  repeat refine kX_one rfl ?_
  refine kX_if (fun q => ?_) (fun q => ?_)
  · have q : σ 195 9 = -1 := qeq q
    repeat refine kX_one rfl ?_
    refine kX_ret (i := .ireturn) (len := 1) rfl (Or.inr rfl) rfl (⟨rF (fun z => z q), rfl⟩)
  · have q : σ 195 9 ≠ -1 := qeqF q
    repeat refine kX_one rfl ?_
    refine kX_ret (i := .ireturn) (len := 1) rfl (Or.inr rfl) rfl (⟨rT q, rfl⟩)
set_option maxRecDepth 100000 in
set_option maxHeartbeats 4000000 in
theorem mk_found (L : Nat) (xs : Nat → Int32) (d : Nat) (σ : kS) (n R S C : Nat) (x : Int32) (h : cJ σ n R S C) : kXM kT L xs (d + 2) 133 [.ref 0, .int x] σ (fun r σ' => (∃ x, r = some (.int x)) ∧ cAfter σ σ' R) := by
  unfold kXM
  by_cases hy : ∃ k, k < 4 ∧ x = nI k
  · obtain ⟨k, hk, rfl⟩ := hy
    have : k = 0 ∨ k = 1 ∨ k = 2 ∨ k = 3 := by omega
    rcases this with rfl | rfl | rfl | rfl
    · repeat refine kX_one rfl ?_
      refine kX_ret (i := .ireturn) (len := 1) rfl (Or.inr rfl) rfl (⟨⟨_, rfl⟩, cAfter_same h⟩)
    · repeat refine kX_one rfl ?_
      refine kX_ret (i := .ireturn) (len := 1) rfl (Or.inr rfl) rfl (⟨⟨_, rfl⟩, cAfter_same h⟩)
    · repeat refine kX_one rfl ?_
      refine kX_cal (mc_hasAttack L xs d σ) rfl (Or.inr rfl) rfl rfl rfl (fun r1 σ1 q1 => ?_)
      obtain ⟨rfl, rfl⟩ := q1
      repeat refine kX_one rfl ?_
      refine kX_if (fun q => ?_) (fun q => ?_)
      · repeat refine kX_one rfl ?_
        refine kX_ret (i := .ireturn) (len := 1) rfl (Or.inr rfl) rfl (⟨⟨_, rfl⟩, cAfter_same h⟩)
      · repeat refine kX_one rfl ?_
        refine kX_ret (i := .ireturn) (len := 1) rfl (Or.inr rfl) rfl (⟨⟨_, rfl⟩, cAfter_same h⟩)
    · repeat refine kX_one rfl ?_
      refine kX_ret (i := .ireturn) (len := 1) rfl (Or.inr rfl) rfl (⟨⟨_, rfl⟩, cAfter_same h⟩)
  · iterate 1 (refine kX_one rfl ?_)
    refine kX_tabO rfl (kp_out 4 (fun k hk e => hy ⟨k, hk, e⟩) (by decide)) rfl ?_
    repeat refine kX_one rfl ?_
    refine kX_ret (i := .ireturn) (len := 1) rfl (Or.inr rfl) rfl (⟨⟨_, rfl⟩, cAfter_same h⟩)
set_option maxRecDepth 100000 in
set_option maxHeartbeats 4000000 in
theorem mk_told (L : Nat) (xs : Nat → Int32) (d : Nat) (σ : kS) (n R S C : Nat) (x : Int32) (h : cJ σ n R S C) : kXM kT L xs (d + 1) 136 [.ref 0, .int x] σ (fun r σ' => (∃ x, r = some (.int x)) ∧ cAfter σ σ' R) := by
  unfold kXM
  by_cases hy : ∃ k, k < 6 ∧ x = nI k
  · obtain ⟨k, hk, rfl⟩ := hy
    have : k = 0 ∨ k = 1 ∨ k = 2 ∨ k = 3 ∨ k = 4 ∨ k = 5 := by omega
    rcases this with rfl | rfl | rfl | rfl | rfl | rfl
    · repeat' first | refine kX_one rfl ?_ | refine kX_if (fun q => ?_) (fun q => ?_)
      all_goals refine kX_ret (i := .ireturn) (len := 1) rfl (Or.inr rfl) rfl (⟨⟨_, rfl⟩, cAfter_same h⟩)
    · repeat' first | refine kX_one rfl ?_ | refine kX_if (fun q => ?_) (fun q => ?_)
      all_goals refine kX_ret (i := .ireturn) (len := 1) rfl (Or.inr rfl) rfl (⟨⟨_, rfl⟩, cAfter_same h⟩)
    · repeat' first | refine kX_one rfl ?_ | refine kX_if (fun q => ?_) (fun q => ?_)
      all_goals refine kX_ret (i := .ireturn) (len := 1) rfl (Or.inr rfl) rfl (⟨⟨_, rfl⟩, cAfter_same h⟩)
    · repeat' first | refine kX_one rfl ?_ | refine kX_if (fun q => ?_) (fun q => ?_)
      all_goals refine kX_ret (i := .ireturn) (len := 1) rfl (Or.inr rfl) rfl (⟨⟨_, rfl⟩, cAfter_same h⟩)
    · repeat' first | refine kX_one rfl ?_ | refine kX_if (fun q => ?_) (fun q => ?_)
      all_goals refine kX_ret (i := .ireturn) (len := 1) rfl (Or.inr rfl) rfl (⟨⟨_, rfl⟩, cAfter_same h⟩)
    · repeat' first | refine kX_one rfl ?_ | refine kX_if (fun q => ?_) (fun q => ?_)
      all_goals refine kX_ret (i := .ireturn) (len := 1) rfl (Or.inr rfl) rfl (⟨⟨_, rfl⟩, cAfter_same h⟩)
  · iterate 1 (refine kX_one rfl ?_)
    refine kX_tabO rfl (kp_out 6 (fun k hk e => hy ⟨k, hk, e⟩) (by decide)) rfl ?_
    repeat refine kX_one rfl ?_
    refine kX_ret (i := .ireturn) (len := 1) rfl (Or.inr rfl) rfl (⟨⟨_, rfl⟩, cAfter_same h⟩)
set_option maxRecDepth 100000 in
set_option maxHeartbeats 4000000 in
theorem mk_attack (L : Nat) (xs : Nat → Int32) (d : Nat) (σ : kS) (n R S C : Nat) (x : Int32) (h : cJ σ n R S C) : kXM kT L xs (d + 2) 134 [.ref 0, .int x] σ (fun r σ' => (∃ x, r = some (.int x)) ∧ cAfter σ σ' R) := by
  obtain ⟨N, -, -, -, -, hl⟩ := h.2.2.2.2.2.2.2.2.2.1
  unfold kXM
  iterate 2 (refine kX_one rfl ?_)
  refine kX_cal (mc_hasAttack L xs d σ) rfl (Or.inr rfl) rfl rfl rfl (fun r1 σ1 q1 => ?_)
  obtain ⟨rfl, rfl⟩ := q1
  have k37 : kX kT L xs (d + 2) 134 37 (lv_args 0 [.ref 0, .int x]) [] σ (fun r σ' => (∃ x, r = some (.int x)) ∧ cAfter σ σ' R) := by
    repeat refine kX_one rfl ?_
    refine kX_ret (i := .ireturn) (len := 1) rfl (Or.inr rfl) rfl (⟨⟨_, rfl⟩, cAfter_same h⟩)
  repeat refine kX_one rfl ?_
  refine kX_if (fun q => ?_) (fun q => ?_)
  · exact k37
  · have q := isB_ne.mp (qeqF q)
    rcases hl with hl | ⟨-, ln, l1, l2, -⟩
    · exact absurd hl q
    · repeat refine kX_one rfl ?_
      refine kX_if (fun q2 => ?_) (fun q2 => ?_)
      · exact k37
      · have q2 : ¬ x < 0 := of_decide_eq_false q2
        obtain ⟨k, hk, rfl⟩ := nI_of q2
        iterate 4 (refine kX_one rfl ?_)
        refine kX_top (l2) ?_
        repeat refine kX_one rfl ?_
        refine kX_if (fun q3 => ?_) (fun q3 => ?_)
        · exact k37
        · have q3 := qgeF q3 k ln
          iterate 4 (refine kX_one rfl ?_)
          refine kX_ialdN rfl rfl (by decide) (k) (by first | rfl | decide) (by omega) ?_
          repeat refine kX_one rfl ?_
          refine kX_ret (i := .ireturn) (len := 1) rfl (Or.inr rfl) rfl (⟨⟨_, rfl⟩, cAfter_same h⟩)
theorem cHi_run {σ τ : kS} (e : ∀ c, c < 181 ∨ 186 ≤ c → τ c = σ c) : cHi σ τ := fun c hc => e c (by omega)
set_option maxRecDepth 100000 in
set_option maxHeartbeats 4000000 in
theorem mk_end (L : Nat) (xs : Nat → Int32) (d : Nat) (σ : kS) (n R S C : Nat) (h : cJ σ n R S C) : kXM kT L xs (d + 1) 123 [.ref 0] σ (fun r σ' => (∃ x, r = some (.int x)) ∧ cAfter σ σ' R) := by
  have e : ∀ c, c < 181 ∨ 186 ≤ c → va_up σ 181 (upd (σ 181) 8 (Int32.ofInt 0)) c = σ c := fun c hc => by
    unfold va_up
    rw [if_neg (by omega)]
  unfold kXM
  repeat refine kX_one rfl ?_
  refine kX_if (fun q => ?_) (fun q => ?_)
  · repeat refine kX_one rfl ?_
    refine kX_ret (i := .ireturn) (len := 1) rfl (Or.inr rfl) rfl (⟨⟨_, rfl⟩, cHi_run e, n, S, C, cJ_run h e (Or.inl rfl)⟩)
  · repeat refine kX_one rfl ?_
    refine kX_ret (i := .ireturn) (len := 1) rfl (Or.inr rfl) rfl (⟨⟨_, rfl⟩, cAfter_same h⟩)
set_option maxRecDepth 100000 in
set_option maxHeartbeats 4000000 in
theorem mc_runStart (L : Nat) (xs : Nat → Int32) (d : Nat) (σ : kS) (n R S C : Nat) (h : cJ σ n R S C) : kXM kT L xs (d + 1) 66 [.ref 181] σ (fun r σ' => r = none ∧ cHi σ σ' ∧ cJ σ' n R S C ∧ σ' 181 8 = 1 ∧ ∀ c, c < 181 ∨ 186 ≤ c → σ' c = σ c) := by
  unfold kXM
  repeat refine kX_one rfl ?_
  have e : ∀ c, c < 181 ∨ 186 ≤ c → va_up (va_up σ 181 (upd (upd (upd (σ 181) 8 (Int32.ofInt 1)) 7 (Int32.ofInt 0)) 9 (Int32.ofInt (-1)))) 182 (va_cpy (σ 17) (σ 182) 0 0 28) c = σ c := fun c hc => by
    unfold va_up
    rw [if_neg (by omega), if_neg (by omega)]
  refine kX_st (va_up (va_up σ 181 (upd (upd (upd (σ 181) 8 (Int32.ofInt 1)) 7 (Int32.ofInt 0)) 9 (Int32.ofInt (-1)))) 182 (va_cpy (σ 17) (σ 182) 0 0 28)) ?_ ?_
  · funext c; unfold  va_up; repeat' split
    all_goals first | rfl | omega | (subst_vars; rfl) | (funext j; unfold upd; repeat' split; all_goals first | rfl | omega | (subst_vars; rfl))
  refine kX_ret (i := .return_) (len := 1) rfl (Or.inr rfl) rfl ⟨rfl, cHi_run e, cJ_run h e (Or.inr ⟨rfl, ⟨0, by omega, rfl, fun i hi => absurd hi (Nat.not_lt_zero i)⟩, ?_, Or.inl rfl⟩), rfl, e⟩
  intro s k hs hk
  have hS4 := h.2.2.1.1
  have := h.2.2.1.2.2.2 s k hs hk
  show va_cpy (σ 17) (σ 182) 0 0 28 (0 + 7 * s + 1 + k) = -1 ∨ ∃ z, z < n ∧ va_cpy (σ 17) (σ 182) 0 0 28 (0 + 7 * s + 1 + k) = nI z ∧ σ 8 z = 1
  have e2 : va_cpy (σ 17) (σ 182) 0 0 28 (0 + 7 * s + 1 + k) = σ 17 (0 + 7 * s + 1 + k) := by
    unfold va_cpy
    rw [if_pos (by omega)]
    congr 1
    omega
  rw [e2]
  exact this
set_option maxRecDepth 100000 in
set_option maxHeartbeats 4000000 in
theorem mk_begin (L : Nat) (xs : Nat → Int32) (d : Nat) (σ : kS) (n R S C : Nat) (h : cJ σ n R S C) : kXM kT L xs (d + 2) 122 [.ref 0] σ (fun r σ' => (∃ x, r = some (.int x)) ∧ cAfter σ σ' R) := by
  unfold kXM
  iterate 2 (refine kX_one rfl ?_)
  refine kX_cal (mc_runStart L xs d σ n R S C h) rfl (Or.inr rfl) rfl rfl rfl (fun r1 σ1 q1 => ?_)
  obtain ⟨rfl, h1, h2, -⟩ := q1
  repeat refine kX_one rfl ?_
  refine kX_ret (i := .ireturn) (len := 1) rfl (Or.inr rfl) rfl (⟨⟨_, rfl⟩, h1, n, S, C, h2⟩)
theorem ix7 (base s : Nat) : nI base + nI s * (Int8.ofInt 7).toInt32 = nI (base + s * 7) := by
  rw [show (Int8.ofInt 7).toInt32 = nI 7 from rfl, pk_mul, nI_add]
theorem ix7v (base s k : Nat) : nI base + nI s * (Int8.ofInt 7).toInt32 + Int32.ofInt 1 + nI k = nI (base + 7 * s + 1 + k) := by
  rw [ix7, show Int32.ofInt 1 = nI 1 from rfl, nI_add, nI_add, Nat.mul_comm s 7]
set_option maxRecDepth 100000 in
set_option maxHeartbeats 4000000 in
theorem mc_doneBy (L : Nat) (xs : Nat → Int32) (d : Nat) (σ : kS) (a m base s : Nat) (g0 : Nat → Int32) (ha : kT[a]? = some (.inl (0, m, .inl g0))) (hm : m ≤ 100000) (hb : base + 7 * s < m) : kXM kT L xs (d + 1) 16 [.ref 13, .ref a, .int (nI base), .int (nI s)] σ (fun r σ' => r = some (.int (σ a (base + 7 * s))) ∧ σ = σ') := by
  unfold kXM
  iterate 6 (refine kX_one rfl ?_)
  refine kX_ialdN rfl ha hm (base + s * 7) (ix7 base s) (by omega) ?_
  refine kX_ret (i := .ireturn) (len := 1) rfl (Or.inr rfl) rfl (⟨by rw [Nat.mul_comm s 7], rfl⟩)
set_option maxRecDepth 100000 in
set_option maxHeartbeats 4000000 in
theorem mc_valueOf (L : Nat) (xs : Nat → Int32) (d : Nat) (σ : kS) (a m base s k : Nat) (g0 : Nat → Int32) (ha : kT[a]? = some (.inl (0, m, .inl g0))) (hm : m ≤ 100000) (hb : base + 7 * s + 1 + k < m) : kXM kT L xs (d + 1) 17 [.ref 13, .ref a, .int (nI base), .int (nI s), .int (nI k)] σ (fun r σ' => r = some (.int (σ a (base + 7 * s + 1 + k))) ∧ σ = σ') := by
  unfold kXM
  iterate 10 (refine kX_one rfl ?_)
  refine kX_ialdN rfl ha hm (base + 7 * s + 1 + k) (ix7v base s k) hb ?_
  refine kX_ret (i := .ireturn) (len := 1) rfl (Or.inr rfl) rfl (⟨rfl, rfl⟩)
set_option maxRecDepth 100000 in
set_option maxHeartbeats 4000000 in
theorem mk_done (L : Nat) (xs : Nat → Int32) (d : Nat) (σ : kS) (n R S C : Nat) (x : Int32) (h : cJ σ n R S C) : kXM kT L xs (d + 2) 129 [.ref 0, .int x] σ (fun r σ' => (∃ x, r = some (.int x)) ∧ cAfter σ σ' R) := by
  have hS := h.2.2.1
  have hS4 := hS.1
  unfold kXM
  iterate 3 (refine kX_one rfl ?_)
  refine kX_cal (mc_hasSession L xs d σ S x hS4 hS.2.1) rfl (Or.inr rfl) rfl rfl rfl (fun r1 σ1 q1 => ?_)
  obtain ⟨rfl, rfl⟩ := q1
  repeat refine kX_one rfl ?_
  refine kX_if (fun q => ?_) (fun q => ?_)
  · obtain ⟨s, hs, rfl⟩ := isB_ne.mp (qne q)
    repeat refine kX_one rfl ?_
    refine kX_if (fun q2 => ?_) (fun q2 => ?_)
    · repeat refine kX_one rfl ?_
      refine kX_ret (i := .ireturn) (len := 1) rfl (Or.inr rfl) rfl (⟨⟨_, rfl⟩, cAfter_same h⟩)
    · repeat refine kX_one rfl ?_
      refine kX_cal (mc_doneBy L xs d σ 182 28 0 s (fun _ => 0) rfl (by decide) (by omega)) rfl (Or.inr rfl) rfl rfl rfl (fun r1 σ1 q1 => ?_)
      obtain ⟨rfl, rfl⟩ := q1
      repeat refine kX_one rfl ?_
      refine kX_ret (i := .ireturn) (len := 1) rfl (Or.inr rfl) rfl (⟨⟨_, rfl⟩, cAfter_same h⟩)
  · repeat refine kX_one rfl ?_
    refine kX_ret (i := .ireturn) (len := 1) rfl (Or.inr rfl) rfl (⟨⟨_, rfl⟩, cAfter_same h⟩)
set_option maxRecDepth 100000 in
set_option maxHeartbeats 4000000 in
theorem mk_stands (L : Nat) (xs : Nat → Int32) (d : Nat) (σ : kS) (n R S C : Nat) (x y : Int32) (h : cJ σ n R S C) : kXM kT L xs (d + 3) 128 [.ref 0, .int x, .int y] σ (fun r σ' => (∃ x, r = some (.int x)) ∧ cAfter σ σ' R) := by
  have hS := h.2.2.1
  have hS4 := hS.1
  unfold kXM
  iterate 3 (refine kX_one rfl ?_)
  refine kX_cal (mc_hasSession L xs (d + 1) σ S x hS4 hS.2.1) rfl (Or.inr rfl) rfl rfl rfl (fun r1 σ1 q1 => ?_)
  obtain ⟨rfl, rfl⟩ := q1
  repeat refine kX_one rfl ?_
  refine kX_if (fun q => ?_) (fun q => ?_)
  · repeat refine kX_one rfl ?_
    refine kX_ret (i := .ireturn) (len := 1) rfl (Or.inr rfl) rfl (⟨⟨_, rfl⟩, cAfter_same h⟩)
  · obtain ⟨s, hs, rfl⟩ := isB_ne.mp (qeqF q)
    iterate 6 (refine kX_one rfl ?_)
    refine kX_ialdN rfl rfl (by decide) (s) (by first | rfl | decide) (by omega) ?_
    iterate 1 (refine kX_one rfl ?_)
    refine kX_cal (mc_hasVariable L xs d σ n R _ y h.2.1) rfl (Or.inr rfl) rfl rfl rfl (fun r1 σ1 q1 => ?_)
    obtain ⟨rfl, rfl⟩ := q1
    repeat refine kX_one rfl ?_
    refine kX_if (fun q2 => ?_) (fun q2 => ?_)
    · obtain ⟨ro, v, -, -, v6, rfl, -⟩ := isB_ne.mp (qne q2)
      repeat refine kX_one rfl ?_
      refine kX_if (fun q3 => ?_) (fun q3 => ?_)
      · repeat refine kX_one rfl ?_
        refine kX_cal (mc_valueOf L xs (d + 1) σ 182 28 0 s v (fun _ => 0) rfl (by decide) (by omega)) rfl (Or.inr rfl) rfl rfl rfl (fun r1 σ1 q1 => ?_)
        obtain ⟨rfl, rfl⟩ := q1
        refine kX_cal (mc_orNone L xs (d + 1) σ _) rfl (Or.inr rfl) rfl rfl rfl (fun r1 σ1 q1 => ?_)
        obtain ⟨rfl, rfl⟩ := q1
        refine kX_ret (i := .ireturn) (len := 1) rfl (Or.inr rfl) rfl (⟨⟨_, rfl⟩, cAfter_same h⟩)
      · repeat refine kX_one rfl ?_
        refine kX_ret (i := .ireturn) (len := 1) rfl (Or.inr rfl) rfl (⟨⟨_, rfl⟩, cAfter_same h⟩)
    · repeat refine kX_one rfl ?_
      refine kX_ret (i := .ireturn) (len := 1) rfl (Or.inr rfl) rfl (⟨⟨_, rfl⟩, cAfter_same h⟩)
