/-! the class: symbolic cells; ROLES -/
theorem jcall_v {k idx kd y n : Nat} {st rest : List Value} {T : List jC} {a ci : Nat} {ts : List Value} (hm : jm_mth k idx = some (kd, y, n)) (hk : decide ((kd = 0 ∨ kd = 3) ∧ n ≤ st.length) = true) (hd : st.drop n = .ref a :: rest) (ha : T[a]? = some (.inr (ci, ts))) (ho : decide (jm_own y = ci ∧ (rest.map fun v => v.category).sum ≤ 8) = true) {as : List Value} (hs : .ref a :: (st.take n).reverse = as) : jcall k st T (.invokevirtual idx) = some (y, as, rest) := by
  subst hs
  unfold jcall
  dsimp only
  rw [hm]
  dsimp only
  rw [if_pos (of_decide_eq_true hk), hd]
  dsimp only
  rw [ha]
  dsimp only
  rw [if_pos (of_decide_eq_true ho)]
theorem kT_ro {r : Nat} (h : r < 4) : kT[23 + 35 * r]? = some (.inr (5, [.ref (24 + 35 * r), .ref (25 + 35 * r), .ref (26 + 35 * r), .int 0, .ref (27 + 35 * r), .int 0, .int 0])) := by
  obtain rfl | rfl | rfl | rfl : r = 0 ∨ r = 1 ∨ r = 2 ∨ r = 3 := by omega
  all_goals rfl
theorem kT_ra {r : Nat} (h : r < 4) : kT[24 + 35 * r]? = some (.inl (0, 6, .inl (fun _ => 0))) := by
  obtain rfl | rfl | rfl | rfl : r = 0 ∨ r = 1 ∨ r = 2 ∨ r = 3 := by omega
  all_goals rfl
theorem kT_rs {r : Nat} (h : r < 4) : kT[25 + 35 * r]? = some (.inl (0, 6, .inl (fun _ => 0))) := by
  obtain rfl | rfl | rfl | rfl : r = 0 ∨ r = 1 ∨ r = 2 ∨ r = 3 := by omega
  all_goals rfl
theorem kT_rr {r : Nat} (h : r < 4) : kT[26 + 35 * r]? = some (.inl (1, 6, .inl (fun _ => 0))) := by
  obtain rfl | rfl | rfl | rfl : r = 0 ∨ r = 1 ∨ r = 2 ∨ r = 3 := by omega
  all_goals rfl
theorem kT_re {r : Nat} (h : r < 4) : kT[27 + 35 * r]? = some (.inl (4, 6, .inr (.inr (.inr (.inr (fun i => ([28 + 35 * r, 33 + 35 * r, 38 + 35 * r, 43 + 35 * r, 48 + 35 * r, 53 + 35 * r] : List Nat)[i]?)))))) := by
  obtain rfl | rfl | rfl | rfl : r = 0 ∨ r = 1 ∨ r = 2 ∨ r = 3 := by omega
  all_goals rfl
theorem ev_at {r k : Nat} (hk : k < 6) : (fun i => ([28 + 35 * r, 33 + 35 * r, 38 + 35 * r, 43 + 35 * r, 48 + 35 * r, 53 + 35 * r] : List Nat)[i]?) k = some (28 + 35 * r + 5 * k) := by
  obtain rfl | rfl | rfl | rfl | rfl | rfl : k = 0 ∨ k = 1 ∨ k = 2 ∨ k = 3 ∨ k = 4 ∨ k = 5 := by omega
  all_goals (show some _ = some _; congr 1 <;> omega)
theorem kT_ev {r k : Nat} (hr : r < 4) (hk : k < 6) : kT[28 + 35 * r + 5 * k]? = some (.inr (3, [.int 0, .int 0, .ref (28 + 35 * r + 5 * k + 1), .ref (28 + 35 * r + 5 * k + 2), .int 0, .ref (28 + 35 * r + 5 * k + 3), .ref (28 + 35 * r + 5 * k + 4), .int 0])) := by
  obtain rfl | rfl | rfl | rfl : r = 0 ∨ r = 1 ∨ r = 2 ∨ r = 3 := by omega
  all_goals
    obtain rfl | rfl | rfl | rfl | rfl | rfl : k = 0 ∨ k = 1 ∨ k = 2 ∨ k = 3 ∨ k = 4 ∨ k = 5 := by omega
    all_goals rfl
theorem kT_e1 {r k i : Nat} (hr : r < 4) (hk : k < 6) (hi : i = 1 ∨ i = 2) : kT[28 + 35 * r + 5 * k + i]? = some (.inl (0, 6, .inl (fun _ => 0))) := by
  obtain rfl | rfl | rfl | rfl : r = 0 ∨ r = 1 ∨ r = 2 ∨ r = 3 := by omega
  all_goals
    obtain rfl | rfl | rfl | rfl | rfl | rfl : k = 0 ∨ k = 1 ∨ k = 2 ∨ k = 3 ∨ k = 4 ∨ k = 5 := by omega
    all_goals
      rcases hi with rfl | rfl
      all_goals rfl
theorem kT_e3 {r k : Nat} (hr : r < 4) (hk : k < 6) : kT[28 + 35 * r + 5 * k + 3]? = some (.inl (0, 24, .inl (fun _ => 0))) ∧ kT[28 + 35 * r + 5 * k + 4]? = some (.inl (0, 7, .inl (fun _ => 0))) := by
  obtain rfl | rfl | rfl | rfl : r = 0 ∨ r = 1 ∨ r = 2 ∨ r = 3 := by omega
  all_goals
    obtain rfl | rfl | rfl | rfl | rfl | rfl : k = 0 ∨ k = 1 ∨ k = 2 ∨ k = 3 ∨ k = 4 ∨ k = 5 := by omega
    all_goals exact ⟨rfl, rfl⟩
theorem ro_at {r : Nat} (h : r < 4) : (fun i => ([23, 58, 93, 128] : List Nat)[i]?) r = some (23 + 35 * r) := by
  obtain rfl | rfl | rfl | rfl : r = 0 ∨ r = 1 ∨ r = 2 ∨ r = 3 := by omega
  all_goals rfl
theorem cl_at {c : Nat} (h : c < 6) : (fun i => ([163, 166, 169, 172, 175, 178] : List Nat)[i]?) c = some (163 + 3 * c) := by
  obtain rfl | rfl | rfl | rfl | rfl | rfl : c = 0 ∨ c = 1 ∨ c = 2 ∨ c = 3 ∨ c = 4 ∨ c = 5 := by omega
  all_goals rfl
theorem kT_cl {c : Nat} (h : c < 6) : kT[163 + 3 * c]? = some (.inr (2, [.int 0, .int 0, .int 0, .int 0, .ref (164 + 3 * c), .ref (165 + 3 * c), .int 0])) := by
  obtain rfl | rfl | rfl | rfl | rfl | rfl : c = 0 ∨ c = 1 ∨ c = 2 ∨ c = 3 ∨ c = 4 ∨ c = 5 := by omega
  all_goals rfl
theorem kT_c1 {c : Nat} (h : c < 6) : kT[164 + 3 * c]? = some (.inl (0, 4, .inl (fun _ => 0))) ∧ kT[165 + 3 * c]? = some (.inl (0, 4, .inl (fun _ => 0))) := by
  obtain rfl | rfl | rfl | rfl | rfl | rfl : c = 0 ∨ c = 1 ∨ c = 2 ∨ c = 3 ∨ c = 4 ∨ c = 5 := by omega
  all_goals exact ⟨rfl, rfl⟩
set_option maxRecDepth 100000 in
set_option maxHeartbeats 4000000 in
theorem mc_hasRole (L : Nat) (xs : Nat → Int32) (d : Nat) (σ : kS) (n : Nat) (x : Int32) (hn : n ≤ 4) (h : σ 13 2 = nI n) : kXM kT L xs (d + 1) 3 [.ref 13, .int x] σ (fun r σ' => r = some (.int (isB (isN x n))) ∧ σ = σ') := by
  unfold kXM
  repeat refine kX_one rfl ?_
  refine kX_if (fun q => ?_) (fun q => ?_)
  · have q : x < 0 := of_decide_eq_true q
    repeat refine kX_one rfl ?_
    refine kX_ret (i := .ireturn) (len := 1) rfl (Or.inr rfl) rfl ⟨rF (fun z => ?_), rfl⟩
    obtain ⟨j, j1, rfl⟩ := z
    exact nI_pos (by omega) q
  · have q : ¬ x < 0 := of_decide_eq_false q
    obtain ⟨j, hj, rfl⟩ := nI_of q
    iterate 3 (refine kX_one rfl ?_)
    refine kX_top (h) ?_
    repeat refine kX_one rfl ?_
    refine kX_if (fun q2 => ?_) (fun q2 => ?_)
    · have q2 := qge q2 j n
      repeat refine kX_one rfl ?_
      refine kX_ret (i := .ireturn) (len := 1) rfl (Or.inr rfl) rfl ⟨rF (fun z => ?_), rfl⟩
      obtain ⟨j', j1, e⟩ := z
      have := nI_inj e
      omega
    · have q2 := qgeF q2 j n
      repeat refine kX_one rfl ?_
      refine kX_ret (i := .ireturn) (len := 1) rfl (Or.inr rfl) rfl (⟨rT (⟨j, q2, rfl⟩), rfl⟩)
set_option maxRecDepth 100000 in
set_option maxHeartbeats 4000000 in
theorem mc_hasSession (L : Nat) (xs : Nat → Int32) (d : Nat) (σ : kS) (n : Nat) (x : Int32) (hn : n ≤ 4) (h : σ 13 6 = nI n) : kXM kT L xs (d + 1) 4 [.ref 13, .int x] σ (fun r σ' => r = some (.int (isB (isN x n))) ∧ σ = σ') := by
  unfold kXM
  repeat refine kX_one rfl ?_
  refine kX_if (fun q => ?_) (fun q => ?_)
  · have q : x < 0 := of_decide_eq_true q
    repeat refine kX_one rfl ?_
    refine kX_ret (i := .ireturn) (len := 1) rfl (Or.inr rfl) rfl ⟨rF (fun z => ?_), rfl⟩
    obtain ⟨j, j1, rfl⟩ := z
    exact nI_pos (by omega) q
  · have q : ¬ x < 0 := of_decide_eq_false q
    obtain ⟨j, hj, rfl⟩ := nI_of q
    iterate 3 (refine kX_one rfl ?_)
    refine kX_top (h) ?_
    repeat refine kX_one rfl ?_
    refine kX_if (fun q2 => ?_) (fun q2 => ?_)
    · have q2 := qge q2 j n
      repeat refine kX_one rfl ?_
      refine kX_ret (i := .ireturn) (len := 1) rfl (Or.inr rfl) rfl ⟨rF (fun z => ?_), rfl⟩
      obtain ⟨j', j1, e⟩ := z
      have := nI_inj e
      omega
    · have q2 := qgeF q2 j n
      repeat refine kX_one rfl ?_
      refine kX_ret (i := .ireturn) (len := 1) rfl (Or.inr rfl) rfl (⟨rT (⟨j, q2, rfl⟩), rfl⟩)
set_option maxRecDepth 100000 in
set_option maxHeartbeats 4000000 in
theorem mc_hasClaim (L : Nat) (xs : Nat → Int32) (d : Nat) (σ : kS) (n : Nat) (x : Int32) (hn : n ≤ 6) (h : σ 13 8 = nI n) : kXM kT L xs (d + 1) 5 [.ref 13, .int x] σ (fun r σ' => r = some (.int (isB (isN x n))) ∧ σ = σ') := by
  unfold kXM
  repeat refine kX_one rfl ?_
  refine kX_if (fun q => ?_) (fun q => ?_)
  · have q : x < 0 := of_decide_eq_true q
    repeat refine kX_one rfl ?_
    refine kX_ret (i := .ireturn) (len := 1) rfl (Or.inr rfl) rfl ⟨rF (fun z => ?_), rfl⟩
    obtain ⟨j, j1, rfl⟩ := z
    exact nI_pos (by omega) q
  · have q : ¬ x < 0 := of_decide_eq_false q
    obtain ⟨j, hj, rfl⟩ := nI_of q
    iterate 3 (refine kX_one rfl ?_)
    refine kX_top (h) ?_
    repeat refine kX_one rfl ?_
    refine kX_if (fun q2 => ?_) (fun q2 => ?_)
    · have q2 := qge q2 j n
      repeat refine kX_one rfl ?_
      refine kX_ret (i := .ireturn) (len := 1) rfl (Or.inr rfl) rfl ⟨rF (fun z => ?_), rfl⟩
      obtain ⟨j', j1, e⟩ := z
      have := nI_inj e
      omega
    · have q2 := qgeF q2 j n
      repeat refine kX_one rfl ?_
      refine kX_ret (i := .ireturn) (len := 1) rfl (Or.inr rfl) rfl (⟨rT (⟨j, q2, rfl⟩), rfl⟩)
set_option maxRecDepth 100000 in
set_option maxHeartbeats 4000000 in
theorem mc_roHas (L : Nat) (xs : Nat → Int32) (d : Nat) (σ : kS) (ro n : Nat) (x : Int32) (hr : ro < 4) (hn : n ≤ 6) (h : σ (23 + 35 * ro) 3 = nI n) : kXM kT L xs (d + 1) 62 [.ref (23 + 35 * ro), .int x] σ (fun r σ' => r = some (.int (isB (isN x n))) ∧ σ = σ') := by
  unfold kXM
  repeat refine kX_one rfl ?_
  refine kX_if (fun q => ?_) (fun q => ?_)
  · have q : x < 0 := of_decide_eq_true q
    repeat refine kX_one rfl ?_
    refine kX_ret (i := .ireturn) (len := 1) rfl (Or.inr rfl) rfl ⟨rF (fun z => ?_), rfl⟩
    obtain ⟨j, j1, rfl⟩ := z
    exact nI_pos (by omega) q
  · have q : ¬ x < 0 := of_decide_eq_false q
    obtain ⟨j, hj, rfl⟩ := nI_of q
    iterate 2 (refine kX_one rfl ?_)
    refine kX_getN rfl rfl (kT_ro hr) rfl ?_
    refine kX_top (h) ?_
    repeat refine kX_one rfl ?_
    refine kX_if (fun q2 => ?_) (fun q2 => ?_)
    · have q2 := qge q2 j n
      repeat refine kX_one rfl ?_
      refine kX_ret (i := .ireturn) (len := 1) rfl (Or.inr rfl) rfl ⟨rF (fun z => ?_), rfl⟩
      obtain ⟨j', j1, e⟩ := z
      have := nI_inj e
      omega
    · have q2 := qgeF q2 j n
      repeat refine kX_one rfl ?_
      refine kX_ret (i := .ireturn) (len := 1) rfl (Or.inr rfl) rfl (⟨rT (⟨j, q2, rfl⟩), rfl⟩)
set_option maxRecDepth 100000 in
set_option maxHeartbeats 4000000 in
theorem mc_hasVariable (L : Nat) (xs : Nat → Int32) (d : Nat) (σ : kS) (n R : Nat) (x y : Int32) (h : cRo σ n R) : kXM kT L xs (d + 2) 6 [.ref 13, .int x, .int y] σ (fun r σ' => r = some (.int (isB (∃ ro v, ro < R ∧ x = nI ro ∧ v < 6 ∧ y = nI v ∧ v < fN (σ (23 + 35 * ro) 3)))) ∧ σ = σ') := by
  have hR := h.1
  unfold kXM
  iterate 2 (refine kX_one rfl ?_)
  refine kX_cal (mc_hasRole L xs d σ R x hR h.2.1) rfl (Or.inr rfl) rfl rfl rfl (fun r1 σ1 q1 => ?_)
  obtain ⟨rfl, rfl⟩ := q1
  repeat refine kX_one rfl ?_
  refine kX_if (fun q => ?_) (fun q => ?_)
  · have q : ¬ isN x R := fun z => isB_ne.mpr z (qeq q)
    repeat refine kX_one rfl ?_
    refine kX_ret (i := .ireturn) (len := 1) rfl (Or.inr rfl) rfl (⟨rF (fun z => q (by obtain ⟨ro, v, r1, r2, -⟩ := z; exact ⟨ro, r1, r2⟩)), rfl⟩)
  · obtain ⟨ro, r1, rfl⟩ := isB_ne.mp (qeqF q)
    obtain ⟨v, e, v1, e1, v2, e2, -⟩ := h.2.2 ro r1
    iterate 3 (refine kX_one rfl ?_)
    refine kX_aaldN rfl (rfl) (by decide) (by decide) (by decide) (ro) (by first | rfl | decide) (by omega) (ro_at (by omega)) ?_
    iterate 1 (refine kX_one rfl ?_)
    refine kX_cal (mc_roHas L xs d σ ro v y (by omega) v1 v2) rfl (Or.inr rfl) rfl (jcall_v rfl rfl rfl (kT_ro (r := ro) (by omega)) rfl rfl) rfl (fun r1 σ1 q1 => ?_)
    obtain ⟨rfl, rfl⟩ := q1
    repeat refine kX_one rfl ?_
    refine kX_if (fun q => ?_) (fun q => ?_)
    · have q : ¬ isN y v := fun z => isB_ne.mpr z (qeq q)
      repeat refine kX_one rfl ?_
      refine kX_ret (i := .ireturn) (len := 1) rfl (Or.inr rfl) rfl ⟨rF (fun z => q ?_), rfl⟩
      obtain ⟨ro', v', a1, a2, a3, a4, a5⟩ := z
      obtain rfl : ro = ro' := nI_inj a2
      rw [v2, fN_nI (by omega)] at a5
      exact ⟨v', a5, a4⟩
    · obtain ⟨v', a1, rfl⟩ := isB_ne.mp (qeqF q)
      repeat refine kX_one rfl ?_
      refine kX_ret (i := .ireturn) (len := 1) rfl (Or.inr rfl) rfl (⟨rT ⟨ro, v', r1, rfl, by omega, rfl, by rw [v2, fN_nI (by omega)]; exact a1⟩, rfl⟩)
/-- a ROLE has changed -/
theorem cR1_eq {σ τ : kS} {n r : Nat} (e : ∀ c, 23 + 35 * r ≤ c → c < 58 + 35 * r → τ c = σ c) (h : cR1 σ n r) : cR1 τ n r := by
  obtain ⟨v, ev, a1, a2, a3, a4, a5, a6⟩ := h
  refine ⟨v, ev, a1, a2, by rw [e _ (by omega) (by omega)]; exact a3, by rw [e _ (by omega) (by omega)]; exact a4, by rw [e (25 + 35 * r) (by omega) (by omega), e (24 + 35 * r) (by omega) (by omega)]; exact a5, fun k hk => cE_up (Nat.le_refl _) (fun i hi => e _ (by omega) (by omega)) (a6 k hk)⟩
theorem cJ_lo {σ τ : kS} {n R R' S C : Nat} (h : cJ σ n R S C) (e : ∀ c, c < 13 ∨ 163 ≤ c ∨ (c = 15 ∨ c = 17) → τ c = σ c) (e13 : ∀ j, j ≠ 2 → τ 13 j = σ 13 j) (hR : cRo τ n R') (hRR : R ≤ R') : cJ τ n R' S C := by
  obtain ⟨h1, h2, h3, h4, h5, h6, h7, h8, h9, h10, h11⟩ := h
  have et : ∀ c, c < 13 → τ c = σ c := fun c hc => e c (Or.inl hc)
  have eh : ∀ c, 163 ≤ c → τ c = σ c := fun c hc => e c (Or.inr (Or.inl hc))
  have hgr : τ 8 = σ 8 := et _ (by decide)
  have hcv : ∀ A base, cV σ n S A base → cV τ n S A base := fun A base q => by
    unfold cV
    rw [hgr]
    exact q
  have hgt : ∀ g, 200 ≤ g → τ 2 g = σ 2 g ∧ τ 3 g = σ 3 g ∧ τ 4 g = σ 4 g ∧ τ 6 g = σ 6 g := fun g _ => by
    rw [et 2 (by decide), et 3 (by decide), et 4 (by decide), et 6 (by decide)]
    exact ⟨rfl, rfl, rfl, rfl⟩
  refine ⟨?_, hR, ?_, ?_, ?_, cKw_eq (by decide) (eh _ (by decide)) (eh _ (by decide)) (eh _ (by decide)) hgt h6, cKw_eq (by decide) (eh _ (by decide)) (eh _ (by decide)) (eh _ (by decide)) hgt h7, cKw_eq (by decide) (eh _ (by decide)) (eh _ (by decide)) (eh _ (by decide)) hgt h8, ?_, ?_, ?_⟩
  · obtain ⟨a1, a2, a3, a4⟩ := h1
    refine ⟨a1, by rw [et 1 (by decide)]; exact a2, ?_, fun t ht => cTt_eq (fun u hu => ?_) (a4 t ht)⟩
    · rw [et 7 (by decide), et 2 (by decide)]
      exact a3
    · rw [et 2 (by decide), et 3 (by decide), et 4 (by decide), et 8 (by decide), et 12 (by decide), et 6 (by decide)]
      exact ⟨rfl, rfl, rfl, rfl, rfl, rfl⟩
  · obtain ⟨a1, a2, a3, a4⟩ := h3
    refine ⟨a1, by rw [e13 _ (by decide)]; exact a2, ?_, ?_⟩
    · rw [e 15 (Or.inr (Or.inr (by decide)))]
      intro s hs
      obtain ⟨r, r1, r2⟩ := a3 s hs
      exact ⟨r, by omega, r2⟩
    · rw [e 17 (Or.inr (Or.inr (by decide)))]
      exact hcv _ _ a4
  · obtain ⟨a1, a2, a3⟩ := h4
    refine ⟨a1, by rw [e13 _ (by decide)]; exact a2, fun c hc => ?_⟩
    rw [eh (163 + 3 * c) (by omega), eh (164 + 3 * c) (by omega), eh (165 + 3 * c) (by omega)]
    exact a3 c hc
  · unfold cKn
    rw [e13 _ (by decide)]
    exact h5
  · unfold cRu
    rw [eh 181 (by decide), eh 183 (by decide), eh 182 (by decide), eh 186 (by decide)]
    rcases h9 with q | ⟨q1, q2, q3, q4⟩
    · exact Or.inl q
    · refine Or.inr ⟨q1, q2, hcv _ _ q3, ?_⟩
      rcases q4 with q4 | ⟨g, g1, g2, g3⟩
      · exact Or.inl q4
      · refine Or.inr ⟨g, g1, g2, fun hg => ?_⟩
        obtain ⟨u, u1, u2, u3⟩ := g3 hg
        refine ⟨u, u1, u2, ?_⟩
        unfold cKg cKc
        rw [hgr, et 3 (by decide), et 4 (by decide)]
        exact u3
  · obtain ⟨N, a1, a2, a3, a4, a5⟩ := h10
    refine ⟨N, a1, by rw [eh 196 (by decide)]; exact a2, fun i hi => ?_, ?_, ?_⟩
    · rw [eh 197 (by decide)]
      exact hcv _ _ (a3 i hi)
    · rw [eh 198 (by decide), eh 199 (by decide)]
      exact a4
    · rw [eh 195 (by decide), eh 203 (by decide)]
      exact a5
  · unfold cQ
    rw [eh 231 (by decide), eh 222 (by decide)]
    exact h11
theorem cJ_ro {σ τ : kS} {n R S C r : Nat} (h : cJ σ n R S C) (hr : r < R) (e : ∀ c, c < 23 + 35 * r ∨ 58 + 35 * r ≤ c → τ c = σ c) (h1 : cR1 τ n r) : cJ τ n R S C := by
  have hR4 := h.2.1.1
  refine cJ_lo h (fun c hc => e c (by omega)) (fun j _ => by rw [e 13 (by omega)]) ⟨hR4, by rw [e 13 (by omega)]; exact h.2.1.2.1, fun r' hr' => ?_⟩ (Nat.le_refl _)
  by_cases q : r' = r
  · subst q
    exact h1
  · exact cR1_eq (fun c c1 c2 => e c (by omega)) (h.2.1.2.2 r' hr')
set_option maxRecDepth 100000 in
set_option maxHeartbeats 4000000 in
theorem mk_role (L : Nat) (xs : Nat → Int32) (d : Nat) (σ : kS) (n R S C : Nat) (h : cJ σ n R S C) : kXM kT L xs (d + 3) 114 [.ref 0] σ (fun r σ' => (R = 4 ∧ r = some (.int (-4)) ∧ σ = σ') ∨ (R < 4 ∧ r = some (.int (nI R)) ∧ cAfter σ σ' (R + 1))) := by
  have hR := h.2.1
  have hR4 := hR.1
  unfold kXM
  iterate 3 (refine kX_one rfl ?_)
  refine kX_top (hR.2.1) ?_
  iterate 1 (refine kX_one rfl ?_)
  repeat refine kX_one rfl ?_
  refine kX_if (fun q => ?_) (fun q => ?_)
  · have q := qlt q R 4
    have hnew : kXM kT L xs (d + 2) 7 [.ref 13] σ (fun r σ' => r = some (.int (nI R)) ∧ cAfter σ σ' (R + 1)) := by
      unfold kXM
      iterate 2 (refine kX_one rfl ?_)
      refine kX_top (hR.2.1) ?_
      iterate 1 (refine kX_one rfl ?_)
      repeat refine kX_one rfl ?_
      refine kX_if (fun q2 => ?_) (fun q2 => ?_)
      · iterate 4 (refine kX_one rfl ?_)
        refine kX_top (hR.2.1) ?_
        refine kX_aaldN rfl (rfl) (by decide) (by decide) (by decide) (R) (by first | rfl | decide) (by omega) (ro_at q) ?_
        have hem : kXM kT L xs (d + 1) 60 [.ref (23 + 35 * R)] σ (fun r σ' => r = none ∧ σ' = va_up σ (23 + 35 * R) (upd (upd (upd (σ (23 + 35 * R)) 3 0) 5 0) 6 0)) := by
          unfold kXM
          iterate 2 (refine kX_one rfl ?_)
          refine kX_putN rfl rfl (kT_ro q) rfl (rfl) rfl ?_
          iterate 2 (refine kX_one rfl ?_)
          refine kX_putN rfl rfl (kT_ro q) rfl (rfl) rfl ?_
          iterate 2 (refine kX_one rfl ?_)
          refine kX_putN rfl rfl (kT_ro q) rfl (rfl) rfl ?_
          refine kX_ret (i := .return_) (len := 1) rfl (Or.inr rfl) rfl ⟨rfl, ?_⟩
          rw [kup_up, kup_up]
          simp only [va_up, if_true]
          rfl
        refine kX_cal (hem) rfl (Or.inr rfl) rfl (jcall_v rfl rfl rfl (kT_ro q) rfl rfl) rfl (fun r1 σ1 q1 => ?_)
        obtain ⟨rfl, rfl⟩ := q1
        have e13 : va_up σ (23 + 35 * R) (upd (upd (upd (σ (23 + 35 * R)) 3 0) 5 0) 6 0) 13 = σ 13 := by
          unfold va_up
          rw [if_neg (by omega)]
        have hrc : va_up σ (23 + 35 * R) (upd (upd (upd (σ (23 + 35 * R)) 3 0) 5 0) 6 0) 13 2 = nI R := by
          rw [e13]
          exact hR.2.1
        have hown : va_up σ (23 + 35 * R) (upd (upd (upd (σ (23 + 35 * R)) 3 0) 5 0) 6 0) (23 + 35 * R) = upd (upd (upd (σ (23 + 35 * R)) 3 0) 5 0) 6 0 := by
          unfold va_up
          rw [if_pos rfl]
        have hoth : ∀ c, c ≠ 23 + 35 * R → va_up σ (23 + 35 * R) (upd (upd (upd (σ (23 + 35 * R)) 3 0) 5 0) 6 0) c = σ c := fun c hc => by
          unfold va_up
          rw [if_neg hc]
        generalize va_up σ (23 + 35 * R) (upd (upd (upd (σ (23 + 35 * R)) 3 0) 5 0) 6 0) = ρ at *
        iterate 3 (refine kX_one rfl ?_)
        refine kX_top (hrc) ?_
        iterate 3 (refine kX_one rfl ?_)
        refine kX_st (va_up ρ 13 (upd (ρ 13) 2 (nI (R + 1)))) (by rw [← nI_1]; rfl) ?_
        iterate 2 (refine kX_one rfl ?_)
        have htop : va_up ρ 13 (upd (ρ 13) 2 (nI (R + 1))) 13 2 = nI (R + 1) := rfl
        refine kX_top (htop) ?_
        iterate 2 (refine kX_one rfl ?_)
        have hoth2 : ∀ c, c ≠ 13 → va_up ρ 13 (upd (ρ 13) 2 (nI (R + 1))) c = ρ c := fun c hc => by
          unfold va_up
          rw [if_neg hc]
        refine kX_ret (i := .ireturn) (len := 1) rfl (Or.inr rfl) rfl ⟨congrArg (fun z => some (Value.int z)) (nI_pred R), fun c hc => ?_, n, S, C, cJ_lo h (fun c hc => ?_) (fun j hj => ?_) ⟨by omega, rfl, fun r hr => ?_⟩ (by omega)⟩
        · rw [hoth2 c (by omega), hoth c (by omega)]
        · rw [hoth2 c (by omega), hoth c (by omega)]
        · show upd (ρ 13) 2 (nI (R + 1)) j = σ 13 j
          rw [pk_un hj, e13]
        · by_cases e : r = R
          · subst e
            refine ⟨0, 0, by omega, by omega, ?_, ?_, fun k hk => absurd hk (Nat.not_lt_zero k), fun k hk => absurd hk (Nat.not_lt_zero k)⟩
            · rw [hoth2 _ (by omega), hown]
              rfl
            · rw [hoth2 _ (by omega), hown]
              rfl
          · exact cR1_eq (fun c c1 c2 => by rw [hoth2 c (by omega), hoth c (by omega)]) (hR.2.2 r (by omega))
      · have q2 := qltF q2 R 4
        omega
    iterate 2 (refine kX_one rfl ?_)
    refine kX_cal hnew rfl (Or.inr rfl) rfl rfl rfl (fun r1 σ1 q1 => ?_)
    obtain ⟨rfl, hA⟩ := q1
    refine kX_ret (i := .ireturn) (len := 1) rfl (Or.inr rfl) rfl (Or.inr ⟨q, rfl, hA⟩)
  · have q := qltF q R 4
    repeat refine kX_one rfl ?_
    refine kX_ret (i := .ireturn) (len := 1) rfl (Or.inr rfl) rfl (Or.inl ⟨by omega, rfl, rfl⟩)
