/-! the class: step, send, undo -/
def rnP (σ τ : kS) (n R S C : Nat) : Prop := cHi σ τ ∧ cJ τ n R S C ∧ τ 181 8 = σ 181 8 ∧ ∀ c, c < 181 ∨ 186 ≤ c → τ c = σ c
theorem ix7s (s : Nat) : nI s * (Int8.ofInt 7).toInt32 = nI (7 * s) := by
  rw [show (Int8.ofInt 7).toInt32 = nI 7 from rfl, pk_mul, Nat.mul_comm s 7]
set_option maxRecDepth 100000 in
set_option maxHeartbeats 4000000 in
theorem mc_step (L : Nat) (xs : Nat → Int32) (d : Nat) (σ : kS) (n R S C s : Nat) (h : cJ σ n R S C) (hon : σ 181 8 ≠ 0) (hs : s < S) : kXM kT L xs (d + 1) 70 [.ref 181, .int (nI s)] σ (fun r σ' => r = none ∧ rnP σ σ' n R S C) := by
  have hS4 := h.2.2.1.1
  have hRu := h.2.2.2.2.2.2.2.2.1
  rcases hRu with hRu | ⟨on1, ⟨c, c1, c2, c3⟩, hV, hg⟩
  · exact absurd hRu hon
  · unfold kXM
    iterate 2 (refine kX_one rfl ?_)
    refine kX_top (c2) ?_
    iterate 1 (refine kX_one rfl ?_)
    repeat refine kX_one rfl ?_
    refine kX_if (fun q => ?_) (fun q => ?_)
    · refine kX_ret (i := .return_) (len := 1) rfl (Or.inr rfl) rfl (⟨rfl, cHi_refl σ, h, rfl, fun _ _ => rfl⟩)
    · have q := qgeF q c 24
      iterate 4 (refine kX_one rfl ?_)
      refine kX_top (c2) ?_
      iterate 1 (refine kX_one rfl ?_)
      refine kX_iastN rfl rfl (by decide) (c) (by first | rfl | decide) (by omega) ?_
      iterate 3 (refine kX_one rfl ?_)
      refine kX_top (c2) ?_
      iterate 5 (refine kX_one rfl ?_)
      iterate 3 (refine kX_one rfl ?_)
      refine kX_top (y := nI (7 * s)) (ix7s s) ?_
      iterate 1 (refine kX_one rfl ?_)
      refine kX_ialdN rfl rfl (by decide) (7 * s) (by first | rfl | decide) (by omega) ?_
      iterate 2 (refine kX_one rfl ?_)
      refine kX_iastN rfl rfl (by decide) (7 * s) (by first | rfl | decide) (by omega) ?_
      iterate 3 (refine kX_one rfl ?_)
      refine kX_st (va_up (va_up (va_up σ 183 (upd (σ 183) c (nI s))) 182 (upd (σ 182) (7 * s) (σ 182 (7 * s) + Int32.ofInt 1))) 181 (upd (upd (σ 181) 7 (nI (c + 1))) 9 (-1))) ?_ ?_
      · rw [← nI_1]
        funext c; unfold  va_up; repeat' split
        all_goals first | rfl | omega | (subst_vars; rfl) | (funext j; unfold upd; repeat' split; all_goals first | rfl | omega | (subst_vars; rfl))
      have e : ∀ e, e < 181 ∨ 186 ≤ e → va_up (va_up (va_up σ 183 (upd (σ 183) c (nI s))) 182 (upd (σ 182) (7 * s) (σ 182 (7 * s) + Int32.ofInt 1))) 181 (upd (upd (σ 181) 7 (nI (c + 1))) 9 (-1)) e = σ e := fun e he => by
        rw [up_ne (by omega), up_ne (by omega), up_ne (by omega)]
      refine kX_ret (i := .return_) (len := 1) rfl (Or.inr rfl) rfl ⟨rfl, cHi_run e, cJ_run h e (Or.inr ⟨on1, ⟨c + 1, by omega, rfl, fun i hi => ?_⟩, fun s' k hs' hk => ?_, Or.inl rfl⟩), rfl, e⟩
      · show ∃ s', s' < S ∧ upd (σ 183) c (nI s) i = nI s'
        by_cases e : i = c
        · subst e
          exact ⟨s, hs, pk_us⟩
        · rw [pk_un e]
          exact c3 i (by omega)
      · show upd (σ 182) (7 * s) _ (0 + 7 * s' + 1 + k) = -1 ∨ ∃ z, z < n ∧ upd (σ 182) (7 * s) _ (0 + 7 * s' + 1 + k) = nI z ∧ σ 8 z = 1
        rw [pk_un (by omega)]
        exact hV s' k hs' hk
set_option maxRecDepth 100000 in
set_option maxHeartbeats 4000000 in
theorem mk_send (L : Nat) (xs : Nat → Int32) (d : Nat) (σ : kS) (n R S C : Nat) (x : Int32) (h : cJ σ n R S C) : kXM kT L xs (d + 56) 124 [.ref 0, .int x] σ (fun r σ' => (∃ x, r = some (.int x)) ∧ cAfter σ σ' R) := by
  have hS := h.2.2.1
  have hS4 := hS.1
  unfold kXM
  iterate 3 (refine kX_one rfl ?_)
  refine kX_cal (mc_hasSession L xs (d + 54) σ S x hS4 hS.2.1) rfl (Or.inr rfl) rfl rfl rfl (fun r1 σ1 q1 => ?_)
  obtain ⟨rfl, rfl⟩ := q1
  repeat refine kX_one rfl ?_
  refine kX_if (fun q => ?_) (fun q => ?_)
  · obtain ⟨s, hs, rfl⟩ := isB_ne.mp (qne q)
    repeat refine kX_one rfl ?_
    refine kX_if (fun q2 => ?_) (fun q2 => ?_)
    · have hon : σ 181 8 ≠ 0 := qne q2
      iterate 7 (refine kX_one rfl ?_)
      refine kX_cal (mc_due L xs (d + 53) σ n R S 182 28 0 s (fun _ => 0) h.2.1 hS4 hS.2.2.1 hs rfl (by decide) (by decide)) rfl (Or.inr rfl) rfl rfl rfl (fun r1 σ1 q1 => ?_)
      obtain ⟨hq, rfl⟩ := q1
      rcases hq with rfl | ⟨r, k, hr4, hk6, rfl, hE⟩
      · repeat refine kX_one rfl ?_
        refine kX_ret (i := .ireturn) (len := 1) rfl (Or.inr rfl) rfl (⟨⟨_, rfl⟩, cAfter_same h⟩)
      · iterate 4 (refine kX_one rfl ?_)
        refine kX_getN rfl rfl (kT_ev hr4 hk6) rfl ?_
        repeat refine kX_one rfl ?_
        refine kX_if (fun q3 => ?_) (fun q3 => ?_)
        · iterate 3 (refine kX_one rfl ?_)
          refine kX_cal (mc_step L xs (d + 54) σ n R S C s h hon hs) rfl (Or.inr rfl) rfl rfl rfl (fun r1 τ q1 => ?_)
          obtain ⟨rfl, s1, s2, s3, s4⟩ := q1
          iterate 2 (refine kX_one rfl ?_)
          refine kX_cal (mc_intruder L xs d τ n R S C s2 (by rw [s3]; exact hon)) rfl (Or.inr rfl) rfl rfl rfl (fun r1 ω q1 => ?_)
          obtain ⟨rfl, i1, i2, -⟩ := q1
          repeat refine kX_one rfl ?_
          refine kX_ret (i := .ireturn) (len := 1) rfl (Or.inr rfl) rfl (⟨⟨_, rfl⟩, cHi_trans s1 i1, n, S, C, i2⟩)
        · repeat refine kX_one rfl ?_
          refine kX_ret (i := .ireturn) (len := 1) rfl (Or.inr rfl) rfl (⟨⟨_, rfl⟩, cAfter_same h⟩)
    · repeat refine kX_one rfl ?_
      refine kX_ret (i := .ireturn) (len := 1) rfl (Or.inr rfl) rfl (⟨⟨_, rfl⟩, cAfter_same h⟩)
  · repeat refine kX_one rfl ?_
    refine kX_ret (i := .ireturn) (len := 1) rfl (Or.inr rfl) rfl (⟨⟨_, rfl⟩, cAfter_same h⟩)
theorem e181 (r k : Nat) (hr : r < 4) (hk : k < 6) : 28 + 35 * r + 5 * k + 1 < 181 ∨ 186 ≤ 28 + 35 * r + 5 * k + 1 := by omega
theorem ix7b (s p : Nat) : nI (7 * s) + Int32.ofInt 1 + nI p = nI (7 * s + 1 + p) := by
  rw [show Int32.ofInt 1 = nI 1 from rfl, nI_add, nI_add]
set_option maxRecDepth 100000 in
set_option maxHeartbeats 4000000 in
theorem mk_undo (L : Nat) (xs : Nat → Int32) (d : Nat) (σ : kS) (n R S C : Nat) (h : cJ σ n R S C) : kXM kT L xs (d + 3) 131 [.ref 0] σ (fun r σ' => (∃ x, r = some (.int x)) ∧ cAfter σ σ' R) := by
  have hS := h.2.2.1
  have hS4 := hS.1
  have hRo := h.2.1
  have hRu := h.2.2.2.2.2.2.2.2.1
  unfold kXM
  repeat refine kX_one rfl ?_
  refine kX_if (fun q => ?_) (fun q => ?_)
  · have hon : σ 181 8 ≠ 0 := qne q
    rcases hRu with hRu | ⟨on1, ⟨c, c1, c2, c3⟩, hV, hg⟩
    · exact absurd hRu hon
    · iterate 3 (refine kX_one rfl ?_)
      refine kX_top (c2) ?_
      repeat refine kX_one rfl ?_
      refine kX_if (fun q2 => ?_) (fun q2 => ?_)
      · have q2 : c ≠ 0 := fun e => qne q2 (by rw [e]; rfl)
        obtain ⟨c', rfl⟩ : ∃ c', c = c' + 1 := ⟨c - 1, by omega⟩
        obtain ⟨s, hs, hs2⟩ := c3 c' (by omega)
        have htb : kXM kT L xs (d + 2) 71 [.ref 181] σ (fun r σ' => (∃ x, r = some (.int x)) ∧ cAfter σ σ' R) := by
          unfold kXM
          iterate 2 (refine kX_one rfl ?_)
          refine kX_top (c2) ?_
          repeat refine kX_one rfl ?_
          refine kX_ifF (decide_eq_false (nI_nle (by omega) (by omega))) ?_
          iterate 3 (refine kX_one rfl ?_)
          refine kX_top (c2) ?_
          iterate 2 (refine kX_one rfl ?_)
          refine kX_top (y := nI c') (nI_pred c') ?_
          iterate 5 (refine kX_one rfl ?_)
          refine kX_ialdV rfl rfl (by decide) c' (by rfl) (by omega) hs2 ?_
          iterate 4 (refine kX_one rfl ?_)
          refine kX_top (y := nI (7 * s)) (ix7s s) ?_
          iterate 5 (refine kX_one rfl ?_)
          refine kX_ialdN rfl rfl (by decide) (7 * s) (by first | rfl | decide) (by omega) ?_
          iterate 2 (refine kX_one rfl ?_)
          refine kX_iastN rfl rfl (by decide) (7 * s) (by first | rfl | decide) (by omega) ?_
          refine kX_st (va_up (va_up σ 181 (upd (σ 181) 7 (nI c'))) 182 (upd (σ 182) (7 * s) (σ 182 (7 * s) - Int32.ofInt 1))) ?_ ?_
          · funext c; unfold  va_up; repeat' split
            all_goals first | rfl | omega | (subst_vars; rfl) | (funext j; unfold upd; repeat' split; all_goals first | rfl | omega | (subst_vars; rfl))
          have eo : ∀ A e, e < 181 ∨ 186 ≤ e → va_up (va_up σ 181 (upd (σ 181) 7 (nI c'))) 182 A e = σ e := fun A e he => by
            rw [up_ne (by omega), up_ne (by omega)]
          have hRo2 : ∀ A, cRo (va_up (va_up σ 181 (upd (σ 181) 7 (nI c'))) 182 A) n R := fun A => cRo_gr (Nat.le_refl _) (fun e e1 e2 => eo A e (by omega)) hRo
          have k101 : ∀ A, cV σ n S A 0 → ∀ lv, nk lv = true → ([(0, .ref 181)] : jL).map (fun q => jl lv q.1) = ([(0, Value.ref 181)] : jL).map (fun q => some q.2) → kX kT L xs (d + 2) 71 101 lv [] (va_up (va_up σ 181 (upd (σ 181) 7 (nI c'))) 182 A) (fun r σ' => (∃ x, r = some (.int x)) ∧ cAfter σ σ' R) := by
            intro A hA lv hk hlv
            refine kX_lv _ hk rfl hlv ?_
            iterate 5 (refine kX_one rfl ?_)
            have e2 : ∀ e, e < 181 ∨ 186 ≤ e → va_up (va_up (va_up σ 181 (upd (σ 181) 7 (nI c'))) 182 A) 181 (upd ((va_up (va_up σ 181 (upd (σ 181) 7 (nI c'))) 182 A) 181) 9 (Int32.ofInt (-1))) e = σ e := fun e he => by
              rw [up_ne (by omega)]
              exact eo A e he
            refine kX_ret (i := .ireturn) (len := 1) rfl (Or.inr rfl) rfl ⟨⟨_, rfl⟩, cHi_run e2, n, S, C, cJ_run h e2 (Or.inr ⟨on1, ⟨c', by omega, rfl, fun i hi => c3 i (by omega)⟩, hA, Or.inl rfl⟩)⟩
          have hV1 : cV σ n S (upd (σ 182) (7 * s) (σ 182 (7 * s) - Int32.ofInt 1)) 0 := fun s' k hs' hk => by
            rw [pk_un (by omega)]
            exact hV s' k hs' hk
          generalize upd (σ 182) (7 * s) (σ 182 (7 * s) - Int32.ofInt 1) = A1 at *
          iterate 5 (refine kX_one rfl ?_)
          refine kX_ialdN rfl rfl (by decide) (7 * s) (by first | rfl | decide) (by omega) ?_
          refine kX_cal (mc_eventOf L xs d _ n R S s _ (hRo2 A1) hS4 hS.2.2.1 hs) rfl (Or.inr rfl) rfl rfl rfl (fun r1 σ1 q1 => ?_)
          obtain ⟨hq, rfl⟩ := q1
          have loop : ∀ (ev : Value) (r k m : Nat), r < 4 → k < 6 → m ≤ 6 → (∀ j, j < m → ev = .ref (28 + 35 * r + 5 * k) ∧ ∃ p, p < 6 ∧ σ (28 + 35 * r + 5 * k + 1) j = nI p) → (ev = .null ∨ ev = .ref (28 + 35 * r + 5 * k)) → ∀ q : Nat × (Nat → Int32), (q.1 ≤ m ∧ cV σ n S q.2 0) → kX kT L xs (d + 2) 71 71 [(5, .int (nI q.1)), (4, .int (nI m)), (3, ev), (2, .int (nI (7 * s))), (1, .int (nI s)), (0, .ref 181)] [] (va_up (va_up σ 181 (upd (σ 181) 7 (nI c'))) 182 q.2) (fun r σ' => (∃ x, r = some (.int x)) ∧ cAfter σ σ' R) := by
            intro ev r k m hr4 hk6 hm6 hbd hev
            rcases hev with rfl | rfl
            · refine kX_while (fun q : Nat × (Nat → Int32) => [(5, .int (nI q.1)), (4, .int (nI m)), (3, .null), (2, .int (nI (7 * s))), (1, .int (nI s)), (0, .ref 181)]) (fun q => va_up (va_up σ 181 (upd (σ 181) 7 (nI c'))) 182 q.2) _ (fun q => m - q.1) ?_
              rintro ⟨j, A⟩ ⟨j1, j2⟩ ih
              dsimp only at j1 j2 ih ⊢
              iterate 2 (refine kX_one rfl ?_)
              repeat refine kX_one rfl ?_
              refine kX_if (fun q3 => ?_) (fun q3 => ?_)
              · exact k101 A j2 _ rfl rfl
              · have q3 := qgeF q3 j m
                exact absurd (hbd j q3).1 (fun e => by cases e)
            · refine kX_while (fun q : Nat × (Nat → Int32) => [(5, .int (nI q.1)), (4, .int (nI m)), (3, .ref (28 + 35 * r + 5 * k)), (2, .int (nI (7 * s))), (1, .int (nI s)), (0, .ref 181)]) (fun q => va_up (va_up σ 181 (upd (σ 181) 7 (nI c'))) 182 q.2) _ (fun q => m - q.1) ?_
              rintro ⟨j, A⟩ ⟨j1, j2⟩ ih
              dsimp only at j1 j2 ih ⊢
              iterate 2 (refine kX_one rfl ?_)
              repeat refine kX_one rfl ?_
              refine kX_if (fun q3 => ?_) (fun q3 => ?_)
              · exact k101 A j2 _ rfl rfl
              · have q3 := qgeF q3 j m
                obtain ⟨-, p, p1, p2⟩ := hbd j q3
                iterate 6 (refine kX_one rfl ?_)
                refine kX_getN rfl rfl (kT_ev hr4 hk6) rfl ?_
                iterate 1 (refine kX_one rfl ?_)
                refine kX_ialdV rfl (kT_e1 hr4 hk6 (Or.inl rfl)) (by decide) (j) (by first | rfl | decide) (by omega) ((congrFun (eo A (28 + 35 * r + 5 * k + 1) (by omega)) j).trans p2) ?_
                iterate 1 (refine kX_one rfl ?_)
                refine kX_top (y := nI (7 * s + 1 + p)) (ix7b s p) ?_
                iterate 1 (refine kX_one rfl ?_)
                refine kX_iastN rfl rfl (by decide) (7 * s + 1 + p) (by first | rfl | decide) (by omega) ?_
                iterate 2 (refine kX_one rfl ?_)
                have := ih (j + 1, upd A (7 * s + 1 + p) (-1)) ⟨q3, fun s' k' hs' hk' => by
                  simp only
                  by_cases e : 0 + 7 * s' + 1 + k' = 7 * s + 1 + p
                  · rw [e]
                    exact Or.inl pk_us
                  · rw [pk_un e]
                    exact j2 s' k' hs' hk'⟩ (by simp only; omega)
                dsimp only at this
                rw [← nI_1] at this
                refine kX_to _ _ rfl rfl rfl ?_ this
                funext c; unfold  va_up; repeat' split
                all_goals first | rfl | omega | (subst_vars; rfl) | (funext j; unfold upd; repeat' split; all_goals first | rfl | omega | (subst_vars; rfl))
          rcases hq with rfl | ⟨r, k, hr4, hk6, rfl, hE⟩
          · iterate 8 (refine kX_one rfl ?_)
            exact kX_lv _ rfl rfl rfl (loop .null 0 0 0 (by decide) (by decide) (by decide) (fun j hj => absurd hj (Nat.not_lt_zero j)) (Or.inl rfl) (0, A1) ⟨Nat.zero_le _, hV1⟩)
          · obtain ⟨t, mm, qq, t1, m6, -, t2, m2, -, bd, -⟩ := hE
            iterate 4 (refine kX_one rfl ?_)
            refine kX_getN rfl rfl (kT_ev hr4 hk6) rfl ?_
            refine kX_top (m2) ?_
            iterate 3 (refine kX_one rfl ?_)
            exact kX_lv _ rfl rfl rfl (loop (.ref (28 + 35 * r + 5 * k)) r k mm hr4 hk6 m6 (fun j hj => ⟨rfl, by
              obtain ⟨p, p1, p2⟩ := (bd j hj).1
              exact ⟨p, p1, (congrFun (eo A1 (28 + 35 * r + 5 * k + 1) (e181 r k hr4 hk6)) j).symm.trans p2⟩⟩) (Or.inr rfl) (0, A1) ⟨Nat.zero_le _, hV1⟩)
        iterate 2 (refine kX_one rfl ?_)
        refine kX_cal htb rfl (Or.inr rfl) rfl rfl rfl (fun r1 τ q1 => ?_)
        obtain ⟨⟨w, rfl⟩, hA⟩ := q1
        refine kX_ret (i := .ireturn) (len := 1) rfl (Or.inr rfl) rfl (⟨⟨_, rfl⟩, hA⟩)
      · repeat refine kX_one rfl ?_
        refine kX_ret (i := .ireturn) (len := 1) rfl (Or.inr rfl) rfl (⟨⟨_, rfl⟩, cAfter_same h⟩)
  · repeat refine kX_one rfl ?_
    refine kX_ret (i := .ireturn) (len := 1) rfl (Or.inr rfl) rfl (⟨⟨_, rfl⟩, cAfter_same h⟩)
