/-! the class: VARIABLES in a TERM; what an EVENT binds -/
def tL (n : Nat) (A : Nat → Int32) (m : Nat) : Prop := ∀ j, j < m → ∃ u, u < n ∧ A j = nI u
theorem tL_up {n m u : Nat} {A : Nat → Int32} (h : tL n A m) (hu : u < n) : tL n (upd A m (nI u)) (m + 1) := fun j hj => by
  by_cases e : j = m
  · subst e
    exact ⟨u, hu, pk_us⟩
  · rw [pk_un e]
    exact h j (by omega)
def lvU (σ : kS) (ST VS : Nat → Int32) : kS := va_up (va_up σ 20 ST) 21 VS
set_option maxRecDepth 100000 in
set_option maxHeartbeats 4000000 in
theorem mc_listVars (L : Nat) (xs : Nat → Int32) (d : Nat) (σ : kS) (n t : Nat) (h : cT σ n) (ht : t < n) : kXM kT L xs (d + 2) 11 [.ref 13, .int (nI t)] σ (fun r σ' => ∃ m ST VS, m ≤ 24 ∧ r = some (.int (nI m)) ∧ σ' = lvU σ ST VS ∧ tL n VS m) := by
  have hn := h.1
  unfold kXM
  have loop : ∀ q : Nat × Nat × Nat × (Nat → Int32) × (Nat → Int32), (q.1 ≤ 24 ∧ q.2.1 ≤ q.1 + 1 ∧ q.2.2.1 ≤ q.1 ∧ tL n q.2.2.2.1 q.2.1 ∧ tL n q.2.2.2.2 q.2.2.1) → kX kT L xs (d + 2) 11 14 [(4, .int (nI q.1)), (3, .int (nI q.2.1)), (2, .int (nI q.2.2.1)), (0, .ref 13), (1, .int (nI t))] [] (lvU σ q.2.2.2.1 q.2.2.2.2) (fun r σ' => ∃ m ST VS, m ≤ 24 ∧ r = some (.int (nI m)) ∧ σ' = lvU σ ST VS ∧ tL n VS m) := by
    refine kX_while (fun q : Nat × Nat × Nat × (Nat → Int32) × (Nat → Int32) => [(4, .int (nI q.1)), (3, .int (nI q.2.1)), (2, .int (nI q.2.2.1)), (0, .ref 13), (1, .int (nI t))]) (fun q => lvU σ q.2.2.2.1 q.2.2.2.2) _ (fun q => 24 - q.1) ?_
    rintro ⟨i, w, m, ST, VS⟩ ⟨i1, i2, i3, i4, i5⟩ ih
    dsimp only at i1 i2 i3 i4 i5 ih ⊢
    have k145 : kX kT L xs (d + 2) 11 145 [(4, .int (nI i)), (3, .int (nI w)), (2, .int (nI m)), (0, .ref 13), (1, .int (nI t))] [] (lvU σ ST VS) (fun r σ' => ∃ m ST VS, m ≤ 24 ∧ r = some (.int (nI m)) ∧ σ' = lvU σ ST VS ∧ tL n VS m) := by
      iterate 1 (refine kX_one rfl ?_)
      refine kX_ret (i := .ireturn) (len := 1) rfl (Or.inr rfl) rfl (⟨m, ST, VS, by omega, rfl, rfl, i5⟩)
    iterate 2 (refine kX_one rfl ?_)
    repeat refine kX_one rfl ?_
    refine kX_if (fun q => ?_) (fun q => ?_)
    · exact k145
    · have q := qgeF q i 24
      iterate 1 (refine kX_one rfl ?_)
      repeat refine kX_one rfl ?_
      refine kX_if (fun q2 => ?_) (fun q2 => ?_)
      · exact k145
      · have q2 := qleF q2 w 0
        obtain ⟨w, rfl⟩ : ∃ w', w = w' + 1 := ⟨w - 1, by omega⟩
        obtain ⟨u, u1, u2⟩ := i4 w (by omega)
        have k139 : ∀ w2 m2 ST2 VS2, w2 ≤ w + 2 → m2 ≤ m + 1 → tL n ST2 w2 → tL n VS2 m2 → kX kT L xs (d + 2) 11 139 [(5, .int (nI u)), (4, .int (nI i)), (3, .int (nI w2)), (2, .int (nI m2)), (0, .ref 13), (1, .int (nI t))] [] (lvU σ ST2 VS2) (fun r σ' => ∃ m ST VS, m ≤ 24 ∧ r = some (.int (nI m)) ∧ σ' = lvU σ ST VS ∧ tL n VS m) := by
          intro w2 m2 ST2 VS2 x1 x2 x3 x4
          iterate 2 (refine kX_one rfl ?_)
          have := ih (i + 1, w2, m2, ST2, VS2) ⟨q, by simp only; omega, by simp only; omega, x3, x4⟩ (by simp only; omega)
          dsimp only at this
          rw [← nI_1] at this
          exact kX_lv _ rfl rfl rfl this
        have k100 : ∀ w2 m2 ST2 VS2, w2 ≤ w + 1 → m2 ≤ m + 1 → tL n ST2 w2 → tL n VS2 m2 → kX kT L xs (d + 2) 11 100 [(5, .int (nI u)), (4, .int (nI i)), (3, .int (nI w2)), (2, .int (nI m2)), (0, .ref 13), (1, .int (nI t))] [] (lvU σ ST2 VS2) (fun r σ' => ∃ m ST VS, m ≤ 24 ∧ r = some (.int (nI m)) ∧ σ' = lvU σ ST VS ∧ tL n VS m) := by
          intro w2 m2 ST2 VS2 x1 x2 x3 x4
          iterate 6 (refine kX_one rfl ?_)
          refine kX_ialdN rfl rfl (by decide) (u) (by first | rfl | decide) (by omega) ?_
          refine kX_cal (mc_has L xs d (lvU σ ST2 VS2) n _ hn h.2.1) rfl (Or.inr rfl) rfl rfl rfl (fun r1 σ1 q1 => ?_)
          obtain ⟨rfl, rfl⟩ := q1
          repeat refine kX_one rfl ?_
          refine kX_if (fun q3 => ?_) (fun q3 => ?_)
          · exact k139 w2 m2 ST2 VS2 (by omega) x2 x3 x4
          · obtain ⟨z, z1, z2⟩ := isB_ne.mp (qeqF q3)
            have z2 : σ 3 u = nI z := z2
            iterate 7 (refine kX_one rfl ?_)
            refine kX_ialdV rfl rfl (by decide) (u) (by first | rfl | decide) (by omega) (z2) ?_
            refine kX_iastN rfl rfl (by decide) (w2) (by first | rfl | decide) (by omega) ?_
            iterate 1 (refine kX_one rfl ?_)
            have := k139 (w2 + 1) m2 (upd ST2 w2 (nI z)) VS2 (by omega) x2 (tL_up x3 z1) x4
            rw [← nI_1] at this
            refine kX_to _ _ rfl rfl rfl ?_ this
            funext c; unfold lvU va_up; repeat' split
            all_goals first | rfl | omega | (subst_vars; rfl) | (funext j; unfold upd; repeat' split; all_goals first | rfl | omega | (subst_vars; rfl))
        have k61 : ∀ m2 VS2, m2 ≤ m + 1 → tL n VS2 m2 → kX kT L xs (d + 2) 11 61 [(5, .int (nI u)), (4, .int (nI i)), (3, .int (nI w)), (2, .int (nI m2)), (0, .ref 13), (1, .int (nI t))] [] (lvU σ ST VS2) (fun r σ' => ∃ m ST VS, m ≤ 24 ∧ r = some (.int (nI m)) ∧ σ' = lvU σ ST VS ∧ tL n VS m) := by
          intro m2 VS2 x2 x4
          have i4' : tL n ST w := fun j hj => i4 j (by omega)
          iterate 6 (refine kX_one rfl ?_)
          refine kX_ialdN rfl rfl (by decide) (u) (by first | rfl | decide) (by omega) ?_
          refine kX_cal (mc_has L xs d (lvU σ ST VS2) n _ hn h.2.1) rfl (Or.inr rfl) rfl rfl rfl (fun r1 σ1 q1 => ?_)
          obtain ⟨rfl, rfl⟩ := q1
          repeat refine kX_one rfl ?_
          refine kX_if (fun q3 => ?_) (fun q3 => ?_)
          · exact k100 w m2 ST VS2 (by omega) x2 i4' x4
          · obtain ⟨z, z1, z2⟩ := isB_ne.mp (qeqF q3)
            have z2 : σ 4 u = nI z := z2
            iterate 7 (refine kX_one rfl ?_)
            refine kX_ialdV rfl rfl (by decide) (u) (by first | rfl | decide) (by omega) (z2) ?_
            refine kX_iastN rfl rfl (by decide) (w) (by first | rfl | decide) (by omega) ?_
            iterate 1 (refine kX_one rfl ?_)
            have := k100 (w + 1) m2 (upd ST w (nI z)) VS2 (by omega) x2 (tL_up i4' z1) x4
            rw [← nI_1] at this
            refine kX_to _ _ rfl rfl rfl ?_ this
            funext c; unfold lvU va_up; repeat' split
            all_goals first | rfl | omega | (subst_vars; rfl) | (funext j; unfold upd; repeat' split; all_goals first | rfl | omega | (subst_vars; rfl))
        iterate 1 (refine kX_one rfl ?_)
        refine kX_lv [(3, .int (nI w)), (4, .int (nI i)), (2, .int (nI m)), (0, .ref 13), (1, .int (nI t))] rfl rfl ?_ ?_
        · rw [show nI w = nI (w + 1) + Int32.ofInt (-1) from (pk_m1 _).symm]
          rfl
        iterate 3 (refine kX_one rfl ?_)
        refine kX_ialdV rfl rfl (by decide) (w) (by first | rfl | decide) (by omega) (u2) ?_
        iterate 5 (refine kX_one rfl ?_)
        refine kX_ialdN rfl rfl (by decide) (u) (by first | rfl | decide) (by omega) ?_
        iterate 1 (refine kX_one rfl ?_)
        repeat refine kX_one rfl ?_
        refine kX_if (fun q3 => ?_) (fun q3 => ?_)
        · exact kX_lv _ rfl rfl rfl (k61 m VS (by omega) i5)
        · iterate 4 (refine kX_one rfl ?_)
          refine kX_iastN rfl rfl (by decide) (m) (by first | rfl | decide) (by omega) ?_
          iterate 1 (refine kX_one rfl ?_)
          have := k61 (m + 1) (upd VS m (nI u)) (by omega) (tL_up i5 u1)
          rw [← nI_1] at this
          refine kX_to _ _ rfl rfl rfl ?_ this
          funext c; unfold lvU va_up; repeat' split
          all_goals first | rfl | omega | (subst_vars; rfl) | (funext j; unfold upd; repeat' split; all_goals first | rfl | omega | (subst_vars; rfl))
  iterate 8 (refine kX_one rfl ?_)
  refine kX_iastN rfl rfl (by decide) (0) (by first | rfl | decide) (by decide) ?_
  iterate 2 (refine kX_one rfl ?_)
  have := loop (0, 1, 0, upd (σ 20) 0 (nI t), σ 21) ⟨Nat.zero_le _, Nat.le_refl _, Nat.le_refl _, fun j hj => ⟨t, ht, by
    obtain rfl : j = 0 := by simp only at hj; omega
    show upd (σ 20) 0 (nI t) 0 = nI t
    exact pk_us⟩, fun j hj => absurd hj (Nat.not_lt_zero j)⟩
  refine kX_to _ _ rfl rfl rfl ?_ this
  funext c; unfold lvU va_up; repeat' split
  all_goals first | rfl | omega | (subst_vars; rfl) | (funext j; unfold upd; repeat' split; all_goals first | rfl | omega | (subst_vars; rfl))
set_option maxRecDepth 100000 in
set_option maxHeartbeats 4000000 in
theorem mc_waitsFor (L : Nat) (xs : Nat → Int32) (d : Nat) (σ : kS) (r v : Nat) (x : Int32) (hr : r < 4) (hv : v ≤ 6) (h : σ (23 + 35 * r) 3 = nI v) : kXM kT L xs (d + 2) 63 [.ref (23 + 35 * r), .int x] σ (fun q σ' => (q = some (.int 0) ∨ (q = some (.int 1) ∧ isN x v)) ∧ σ = σ') := by
  unfold kXM
  iterate 2 (refine kX_one rfl ?_)
  refine kX_cal (mc_roHas L xs d σ r v x hr hv h) rfl (Or.inr rfl) rfl (jcall_v rfl rfl rfl (kT_ro hr) rfl rfl) rfl (fun r1 σ1 q1 => ?_)
  obtain ⟨rfl, rfl⟩ := q1
  repeat refine kX_one rfl ?_
  refine kX_if (fun q => ?_) (fun q => ?_)
  · repeat refine kX_one rfl ?_
    refine kX_ret (i := .ireturn) (len := 1) rfl (Or.inr rfl) rfl (⟨Or.inl rfl, rfl⟩)
  · obtain ⟨k, k1, rfl⟩ := isB_ne.mp (qeqF q)
    iterate 1 (refine kX_one rfl ?_)
    refine kX_getN rfl rfl (kT_ro hr) rfl ?_
    iterate 1 (refine kX_one rfl ?_)
    refine kX_ialdN rfl (kT_ra hr) (by decide) (k) (by first | rfl | decide) (by omega) ?_
    iterate 1 (refine kX_one rfl ?_)
    repeat refine kX_one rfl ?_
    refine kX_if (fun q2 => ?_) (fun q2 => ?_)
    · repeat refine kX_one rfl ?_
      refine kX_ret (i := .ireturn) (len := 1) rfl (Or.inr rfl) rfl (⟨Or.inl rfl, rfl⟩)
    · iterate 1 (refine kX_one rfl ?_)
      refine kX_getN rfl rfl (kT_ro hr) rfl ?_
      iterate 1 (refine kX_one rfl ?_)
      refine kX_baldN rfl (kT_rr hr) (by decide) (k) (by first | rfl | decide) (by omega) ?_
      repeat refine kX_one rfl ?_
      refine kX_if (fun q3 => ?_) (fun q3 => ?_)
      · repeat refine kX_one rfl ?_
        refine kX_ret (i := .ireturn) (len := 1) rfl (Or.inr rfl) rfl (⟨Or.inl rfl, rfl⟩)
      · repeat refine kX_one rfl ?_
        refine kX_ret (i := .ireturn) (len := 1) rfl (Or.inr rfl) rfl (⟨Or.inr ⟨rfl, k, k1, rfl⟩, rfl⟩)
set_option maxRecDepth 100000 in
set_option maxHeartbeats 4000000 in
theorem mc_mayBeEvent (L : Nat) (xs : Nat → Int32) (d : Nat) (σ : kS) (n R r t v : Nat) (b : Int32) (h : cT σ n) (hR : R ≤ 4) (hr : r < R) (ht : t < n) (hv : v ≤ 6) (hvc : σ (23 + 35 * r) 3 = nI v) : kXM kT L xs (d + 3) 8 [.ref 13, .int (nI r), .int b, .int (nI t)] σ (fun q σ' => (q = some (.int 0) ∨ q = some (.int 1)) ∧ ∃ ST VS, σ' = lvU σ ST VS) := by
  have hn := h.1
  have hr4 : r < 4 := by omega
  unfold kXM
  iterate 2 (refine kX_one rfl ?_)
  refine kX_cal (mc_listVars L xs d σ n t h ht) rfl (Or.inr rfl) rfl rfl rfl (fun r1 σ1 q1 => ?_)
  obtain ⟨m, ST, VS, m1, rfl, rfl, hl⟩ := q1
  have hvc2 : lvU σ ST VS (23 + 35 * r) 3 = nI v := by
    unfold lvU
    rw [up_ne (by omega), up_ne (by omega)]
    exact hvc
  have loop : ∀ i : Nat, i ≤ m → kX kT L xs (d + 3) 8 10 [(5, .int (nI i)), (4, .int (nI m)), (0, .ref 13), (1, .int (nI r)), (2, .int b), (3, .int (nI t))] [] (lvU σ ST VS) (fun q σ' => (q = some (.int 0) ∨ q = some (.int 1)) ∧ ∃ ST VS, σ' = lvU σ ST VS) := by
    refine kX_while (fun i : Nat => [(5, .int (nI i)), (4, .int (nI m)), (0, .ref 13), (1, .int (nI r)), (2, .int b), (3, .int (nI t))]) (fun _ => lvU σ ST VS) (fun i => i ≤ m) (fun i => m - i) ?_
    intro i hi ih
    iterate 2 (refine kX_one rfl ?_)
    repeat refine kX_one rfl ?_
    refine kX_if (fun q => ?_) (fun q => ?_)
    · repeat refine kX_one rfl ?_
      refine kX_ret (i := .ireturn) (len := 1) rfl (Or.inr rfl) rfl (⟨Or.inr rfl, ST, VS, rfl⟩)
    · have q := qgeF q i m
      obtain ⟨u, u1, u2⟩ := hl i q
      have k70 : kX kT L xs (d + 3) 8 70 [(6, .int (nI u)), (5, .int (nI i)), (4, .int (nI m)), (0, .ref 13), (1, .int (nI r)), (2, .int b), (3, .int (nI t))] [] (lvU σ ST VS) (fun q σ' => (q = some (.int 0) ∨ q = some (.int 1)) ∧ ∃ ST VS, σ' = lvU σ ST VS) := by
        iterate 2 (refine kX_one rfl ?_)
        have := ih (i + 1) q (by omega)
        rw [← nI_1] at this
        exact kX_lv _ rfl rfl rfl this
      iterate 3 (refine kX_one rfl ?_)
      refine kX_ialdV rfl rfl (by decide) (i) (by first | rfl | decide) (by omega) (u2) ?_
      iterate 5 (refine kX_one rfl ?_)
      refine kX_ialdN rfl rfl (by decide) (u) (by first | rfl | decide) (by omega) ?_
      iterate 1 (refine kX_one rfl ?_)
      repeat refine kX_one rfl ?_
      refine kX_if (fun q2 => ?_) (fun q2 => ?_)
      · iterate 1 (refine kX_one rfl ?_)
        repeat refine kX_one rfl ?_
        refine kX_if (fun q3 => ?_) (fun q3 => ?_)
        · exact k70
        · iterate 3 (refine kX_one rfl ?_)
          refine kX_aaldN rfl (rfl) (by decide) (by decide) (by decide) (r) (by first | rfl | decide) (hr4) (ro_at hr4) ?_
          iterate 4 (refine kX_one rfl ?_)
          refine kX_ialdN rfl rfl (by decide) (u) (by first | rfl | decide) (by omega) ?_
          refine kX_cal (mc_waitsFor L xs d (lvU σ ST VS) r v _ hr4 hv hvc2) rfl (Or.inr rfl) rfl (jcall_v rfl rfl rfl (kT_ro hr4) rfl rfl) rfl (fun r1 σ1 q1 => ?_)
          obtain ⟨hq, rfl⟩ := q1
          rcases hq with rfl | ⟨rfl, -⟩
          · iterate 1 (refine kX_one rfl ?_)
            exact k70
          · repeat refine kX_one rfl ?_
            refine kX_ret (i := .ireturn) (len := 1) rfl (Or.inr rfl) rfl (⟨Or.inl rfl, ST, VS, rfl⟩)
      · repeat refine kX_one rfl ?_
        refine kX_ret (i := .ireturn) (len := 1) rfl (Or.inr rfl) rfl (⟨Or.inl rfl, ST, VS, rfl⟩)
  iterate 3 (refine kX_one rfl ?_)
  exact kX_lv _ rfl rfl rfl (loop 0 (Nat.zero_le _))
