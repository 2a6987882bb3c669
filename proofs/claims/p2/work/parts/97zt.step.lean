section
/-! the class: step, send, undo -/
def rnP (σ τ : kS) (n R S C : Nat) : Prop := cHi σ τ ∧ cJ τ n R S C ∧ τ 181 8 = σ 181 8 ∧ ∀ c, c < 181 ∨ 186 ≤ c → τ c = σ c
theorem ix7s (s : Nat) : nI s * (Int8.ofInt 7).toInt32 = nI (7 * s) := by
  rw [show (Int8.ofInt 7).toInt32 = nI 7 from rfl, pk_mul, Nat.mul_comm s 7]
set_option maxRecDepth 100000 in
set_option maxHeartbeats 4000000 in
theorem mc_step (L : Nat) (xs : Nat → Int32) (d : Nat) (σ : kS) (n R S C s : Nat) (h : cJ σ n R S C) (hon : σ 181 8 ≠ 0) (hs : s < S) : kXM kT L xs (d + 1) 70 [.ref 181, .int (nI s)] σ (fun r σ' => r = none ∧ rnP σ σ' n R S C) := by
  have hS4 := h.2.2.1.1
  have hRu := h.2.2.2.2.2.2.2.2.1
  rcases hRu with hRu | ⟨on1, ⟨c, c1, c2, c3⟩, hV, hg⟩
  · exact absurd hRu hon
  · unfold kXM
    iterate 2 (refine kX_one rfl ?_)
    refine kX_top (c2) ?_
    iterate 1 (refine kX_one rfl ?_)
    repeat refine kX_one rfl ?_
    refine kX_if (fun q => ?_) (fun q => ?_)
    · refine kX_ret (i := .return_) (len := 1) rfl (Or.inr rfl) rfl (⟨rfl, cHi_refl σ, h, rfl, fun _ _ => rfl⟩)
    · have q := qgeF q c 24
      iterate 4 (refine kX_one rfl ?_)
      refine kX_top (c2) ?_
      iterate 1 (refine kX_one rfl ?_)
      refine kX_iastN rfl rfl (by decide) (c) (by first | rfl | decide) (by omega) ?_
      iterate 3 (refine kX_one rfl ?_)
      refine kX_top (c2) ?_
      iterate 5 (refine kX_one rfl ?_)
      iterate 3 (refine kX_one rfl ?_)
      refine kX_top (y := nI (7 * s)) (ix7s s) ?_
      iterate 1 (refine kX_one rfl ?_)
      refine kX_ialdN rfl rfl (by decide) (7 * s) (by first | rfl | decide) (by omega) ?_
      iterate 2 (refine kX_one rfl ?_)
      refine kX_iastN rfl rfl (by decide) (7 * s) (by first | rfl | decide) (by omega) ?_
      iterate 3 (refine kX_one rfl ?_)
      refine kX_st (va_up (va_up (va_up σ 183 (upd (σ 183) c (nI s))) 182 (upd (σ 182) (7 * s) (σ 182 (7 * s) + Int32.ofInt 1))) 181 (upd (upd (σ 181) 7 (nI (c + 1))) 9 (-1))) ?_ ?_
      · rw [← nI_1]
        funext c; unfold  va_up; repeat' split
        all_goals first | rfl | omega | (subst_vars; rfl) | (funext j; unfold upd; repeat' split; all_goals first | rfl | omega | (subst_vars; rfl))
      have e : ∀ e, e < 181 ∨ 186 ≤ e → va_up (va_up (va_up σ 183 (upd (σ 183) c (nI s))) 182 (upd (σ 182) (7 * s) (σ 182 (7 * s) + Int32.ofInt 1))) 181 (upd (upd (σ 181) 7 (nI (c + 1))) 9 (-1)) e = σ e := fun e he => by
        rw [up_ne (by omega), up_ne (by omega), up_ne (by omega)]
      refine kX_ret (i := .return_) (len := 1) rfl (Or.inr rfl) rfl ⟨rfl, cHi_run e, cJ_run h e (Or.inr ⟨on1, ⟨c + 1, by omega, rfl, fun i hi => ?_⟩, fun s' k hs' hk => ?_, Or.inl rfl⟩), rfl, e⟩
      · show ∃ s', s' < S ∧ upd (σ 183) c (nI s) i = nI s'
        by_cases e : i = c
        · subst e
          exact ⟨s, hs, pk_us⟩
        · rw [pk_un e]
          exact c3 i (by omega)
      · show upd (σ 182) (7 * s) _ (0 + 7 * s' + 1 + k) = -1 ∨ ∃ z, z < n ∧ upd (σ 182) (7 * s) _ (0 + 7 * s' + 1 + k) = nI z ∧ σ 8 z = 1
        rw [pk_un (by omega)]
        exact hV s' k hs' hk
set_option maxRecDepth 100000 in
set_option maxHeartbeats 4000000 in
theorem mk_send (L : Nat) (xs : Nat → Int32) (d : Nat) (σ : kS) (n R S C : Nat) (x : Int32) (h : cJ σ n R S C) : kXM kT L xs (d + 56) 124 [.ref 0, .int x] σ (fun r σ' => (∃ x, r = some (.int x)) ∧ cAfter σ σ' R) := by
  have hS := h.2.2.1
  have hS4 := hS.1
  unfold kXM
  iterate 3 (refine kX_one rfl ?_)
  refine kX_cal (mc_hasSession L xs (d + 54) σ S x hS4 hS.2.1) rfl (Or.inr rfl) rfl rfl rfl (fun r1 σ1 q1 => ?_)
  obtain ⟨rfl, rfl⟩ := q1
  repeat refine kX_one rfl ?_
  refine kX_if (fun q => ?_) (fun q => ?_)
  · obtain ⟨s, hs, rfl⟩ := isB_ne.mp (qne q)
    repeat refine kX_one rfl ?_
    refine kX_if (fun q2 => ?_) (fun q2 => ?_)
    · have hon : σ 181 8 ≠ 0 := qne q2
      iterate 7 (refine kX_one rfl ?_)
      refine kX_cal (mc_due L xs (d + 53) σ n R S 182 28 0 s (fun _ => 0) h.2.1 hS4 hS.2.2.1 hs rfl (by decide) (by decide)) rfl (Or.inr rfl) rfl rfl rfl (fun r1 σ1 q1 => ?_)
      obtain ⟨hq, rfl⟩ := q1
      rcases hq with rfl | ⟨r, k, hr4, hk6, rfl, hE⟩
      · repeat refine kX_one rfl ?_
        refine kX_ret (i := .ireturn) (len := 1) rfl (Or.inr rfl) rfl (⟨⟨_, rfl⟩, cAfter_same h⟩)
      · iterate 4 (refine kX_one rfl ?_)
        refine kX_getN rfl rfl (kT_ev hr4 hk6) rfl ?_
        repeat refine kX_one rfl ?_
        refine kX_if (fun q3 => ?_) (fun q3 => ?_)
        · iterate 3 (refine kX_one rfl ?_)
          refine kX_cal (mc_step L xs (d + 54) σ n R S C s h hon hs) rfl (Or.inr rfl) rfl rfl rfl (fun r1 τ q1 => ?_)
          obtain ⟨rfl, s1, s2, s3, s4⟩ := q1
          iterate 2 (refine kX_one rfl ?_)
          refine kX_cal (mc_intruder L xs d τ n R S C s2 (by rw [s3]; exact hon)) rfl (Or.inr rfl) rfl rfl rfl (fun r1 ω q1 => ?_)
          obtain ⟨rfl, i1, i2, -⟩ := q1
          repeat refine kX_one rfl ?_
          refine kX_ret (i := .ireturn) (len := 1) rfl (Or.inr rfl) rfl (⟨⟨_, rfl⟩, cHi_trans s1 i1, n, S, C, i2⟩)
        · repeat refine kX_one rfl ?_
          refine kX_ret (i := .ireturn) (len := 1) rfl (Or.inr rfl) rfl (⟨⟨_, rfl⟩, cAfter_same h⟩)
    · repeat refine kX_one rfl ?_
      refine kX_ret (i := .ireturn) (len := 1) rfl (Or.inr rfl) rfl (⟨⟨_, rfl⟩, cAfter_same h⟩)
  · repeat refine kX_one rfl ?_
    refine kX_ret (i := .ireturn) (len := 1) rfl (Or.inr rfl) rfl (⟨⟨_, rfl⟩, cAfter_same h⟩)
theorem e181 (r k : Nat) (hr : r < 4) (hk : k < 6) : 28 + 35 * r + 5 * k + 1 < 181 ∨ 186 ≤ 28 + 35 * r + 5 * k + 1 := by omega
theorem ix7b (s p : Nat) : nI (7 * s) + Int32.ofInt 1 + nI p = nI (7 * s + 1 + p) := by
  rw [show Int32.ofInt 1 = nI 1 from rfl, nI_add, nI_add]
set_option maxRecDepth 100000 in
set_option maxHeartbeats 4000000 in
theorem mk_undo (L : Nat) (xs : Nat → Int32) (d : Nat) (σ : kS) (n R S C : Nat) (h : cJ σ n R S C) : kXM kT L xs (d + 3) 131 [.ref 0] σ (fun r σ' => (∃ x, r = some (.int x)) ∧ cAfter σ σ' R) := by
  have hS := h.2.2.1
  have hS4 := hS.1
  have hRo := h.2.1
  have hRu := h.2.2.2.2.2.2.2.2.1
  unfold kXM
  repeat refine kX_one rfl ?_
  refine kX_if (fun q => ?_) (fun q => ?_)
  · have hon : σ 181 8 ≠ 0 := qne q
    rcases hRu with hRu | ⟨on1, ⟨c, c1, c2, c3⟩, hV, hg⟩
    · exact absurd hRu hon
    · iterate 3 (refine kX_one rfl ?_)
      refine kX_top (c2) ?_
      repeat refine kX_one rfl ?_
      refine kX_if (fun q2 => ?_) (fun q2 => ?_)
      · have q2 : c ≠ 0 := fun e => qne q2 (by rw [e]; rfl)
        obtain ⟨c', rfl⟩ : ∃ c', c = c' + 1 := ⟨c - 1, by omega⟩
        obtain ⟨s, hs, hs2⟩ := c3 c' (by omega)
        have htb : kXM kT L xs (d + 2) 71 [.ref 181] σ (fun r σ' => (∃ x, r = some (.int x)) ∧ cAfter σ σ' R) := by
          unfold kXM
          iterate 2 (refine kX_one rfl ?_)
          refine kX_top (c2) ?_
          repeat refine kX_one rfl ?_
          refine kX_ifF (decide_eq_false (nI_nle (by omega) (by omega))) ?_
          iterate 3 (refine kX_one rfl ?_)
          refine kX_top (c2) ?_
          iterate 2 (refine kX_one rfl ?_)
          refine kX_top (y := nI c') (nI_pred c') ?_
          iterate 5 (refine kX_one rfl ?_)
          refine kX_ialdV rfl rfl (by decide) c' (by rfl) (by omega) hs2 ?_
          iterate 4 (refine kX_one rfl ?_)
          refine kX_top (y := nI (7 * s)) (ix7s s) ?_
          iterate 5 (refine kX_one rfl ?_)
          refine kX_ialdN rfl rfl (by decide) (7 * s) (by first | rfl | decide) (by omega) ?_
          iterate 2 (refine kX_one rfl ?_)
          refine kX_iastN rfl rfl (by decide) (7 * s) (by first | rfl | decide) (by omega) ?_
          refine kX_st (va_up (va_up σ 181 (upd (σ 181) 7 (nI c'))) 182 (upd (σ 182) (7 * s) (σ 182 (7 * s) - Int32.ofInt 1))) ?_ ?_
          · funext c; unfold  va_up; repeat' split
            all_goals first | rfl | omega | (subst_vars; rfl) | (funext j; unfold upd; repeat' split; all_goals first | rfl | omega | (subst_vars; rfl))
          have eo : ∀ A e, e < 181 ∨ 186 ≤ e → va_up (va_up σ 181 (upd (σ 181) 7 (nI c'))) 182 A e = σ e := fun A e he => by
            rw [up_ne (by omega), up_ne (by omega)]
          have hRo2 : ∀ A, cRo (va_up (va_up σ 181 (upd (σ 181) 7 (nI c'))) 182 A) n R := fun A => cRo_gr (Nat.le_refl _) (fun e e1 e2 => eo A e (by omega)) hRo
          have k101 : ∀ A, cV σ n S A 0 → ∀ lv, nk lv = true → ([(0, .ref 181)] : jL).map (fun q => jl lv q.1) = ([(0, Value.ref 181)] : jL).map (fun q => some q.2) → kX kT L xs (d + 2) 71 101 lv [] (va_up (va_up σ 181 (upd (σ 181) 7 (nI c'))) 182 A) (fun r σ' => (∃ x, r = some (.int x)) ∧ cAfter σ σ' R) := by
            intro A hA lv hk hlv
            refine kX_lv _ hk rfl hlv ?_
            iterate 5 (refine kX_one rfl ?_)
            have e2 : ∀ e, e < 181 ∨ 186 ≤ e → va_up (va_up (va_up σ 181 (upd (σ 181) 7 (nI c'))) 182 A) 181 (upd ((va_up (va_up σ 181 (upd (σ 181) 7 (nI c'))) 182 A) 181) 9 (Int32.ofInt (-1))) e = σ e := fun e he => by
              rw [up_ne (by omega)]
              exact eo A e he
            refine kX_ret (i := .ireturn) (len := 1) rfl (Or.inr rfl) rfl ⟨⟨_, rfl⟩, cHi_run e2, n, S, C, cJ_run h e2 (Or.inr ⟨on1, ⟨c', by omega, rfl, fun i hi => c3 i (by omega)⟩, hA, Or.inl rfl⟩)⟩
          have hV1 : cV σ n S (upd (σ 182) (7 * s) (σ 182 (7 * s) - Int32.ofInt 1)) 0 := fun s' k hs' hk => by
            rw [pk_un (by omega)]
            exact hV s' k hs' hk
          generalize upd (σ 182) (7 * s) (σ 182 (7 * s) - Int32.ofInt 1) = A1 at *
          iterate 5 (refine kX_one rfl ?_)
          refine kX_ialdN rfl rfl (by decide) (7 * s) (by first | rfl | decide) (by omega) ?_
          refine kX_cal (mc_eventOf L xs d _ n R S s _ (hRo2 A1) hS4 hS.2.2.1 hs) rfl (Or.inr rfl) rfl rfl rfl (fun r1 σ1 q1 => ?_)
          obtain ⟨hq, rfl⟩ := q1
          have loop : ∀ (ev : Value) (r k m : Nat), r < 4 → k < 6 → m ≤ 6 → (∀ j, j < m → ev = .ref (28 + 35 * r + 5 * k) ∧ ∃ p, p < 6 ∧ σ (28 + 35 * r + 5 * k + 1) j = nI p) → (ev = .null ∨ ev = .ref (28 + 35 * r + 5 * k)) → ∀ q : Nat × (Nat → Int32), (q.1 ≤ m ∧ cV σ n S q.2 0) → kX kT L xs (d + 2) 71 71 [(5, .int (nI q.1)), (4, .int (nI m)), (3, ev), (2, .int (nI (7 * s))), (1, .int (nI s)), (0, .ref 181)] [] (va_up (va_up σ 181 (upd (σ 181) 7 (nI c'))) 182 q.2) (fun r σ' => (∃ x, r = some (.int x)) ∧ cAfter σ σ' R) := by
            intro ev r k m hr4 hk6 hm6 hbd hev
            rcases hev with rfl | rfl
            · refine kX_while (fun q : Nat × (Nat → Int32) => [(5, .int (nI q.1)), (4, .int (nI m)), (3, .null), (2, .int (nI (7 * s))), (1, .int (nI s)), (0, .ref 181)]) (fun q => va_up (va_up σ 181 (upd (σ 181) 7 (nI c'))) 182 q.2) _ (fun q => m - q.1) ?_
              rintro ⟨j, A⟩ ⟨j1, j2⟩ ih
              dsimp only at j1 j2 ih ⊢
              iterate 2 (refine kX_one rfl ?_)
              repeat refine kX_one rfl ?_
              refine kX_if (fun q3 => ?_) (fun q3 => ?_)
              · exact k101 A j2 _ rfl rfl
              · have q3 := qgeF q3 j m
                exact absurd (hbd j q3).1 (fun e => by cases e)
            · refine kX_while (fun q : Nat × (Nat → Int32) => [(5, .int (nI q.1)), (4, .int (nI m)), (3, .ref (28 + 35 * r + 5 * k)), (2, .int (nI (7 * s))), (1, .int (nI s)), (0, .ref 181)]) (fun q => va_up (va_up σ 181 (upd (σ 181) 7 (nI c'))) 182 q.2) _ (fun q => m - q.1) ?_
              rintro ⟨j, A⟩ ⟨j1, j2⟩ ih
              dsimp only at j1 j2 ih ⊢
              iterate 2 (refine kX_one rfl ?_)
              repeat refine kX_one rfl ?_
              refine kX_if (fun q3 => ?_) (fun q3 => ?_)
              · exact k101 A j2 _ rfl rfl
              · have q3 := qgeF q3 j m
                obtain ⟨-, p, p1, p2⟩ := hbd j q3
                iterate 6 (refine kX_one rfl ?_)
                refine kX_getN rfl rfl (kT_ev hr4 hk6) rfl ?_
                iterate 1 (refine kX_one rfl ?_)
                refine kX_ialdV rfl (kT_e1 hr4 hk6 (Or.inl rfl)) (by decide) (j) (by first | rfl | decide) (by omega) ((congrFun (eo A (28 + 35 * r + 5 * k + 1) (by omega)) j).trans p2) ?_
                iterate 1 (refine kX_one rfl ?_)
                refine kX_top (y := nI (7 * s + 1 + p)) (ix7b s p) ?_
                iterate 1 (refine kX_one rfl ?_)
                refine kX_iastN rfl rfl (by decide) (7 * s + 1 + p) (by first | rfl | decide) (by omega) ?_
                iterate 2 (refine kX_one rfl ?_)
                have := ih (j + 1, upd A (7 * s + 1 + p) (-1)) ⟨q3, fun s' k' hs' hk' => by
                  simp only
                  by_cases e : 0 + 7 * s' + 1 + k' = 7 * s + 1 + p
                  · rw [e]
                    exact Or.inl pk_us
                  · rw [pk_un e]
                    exact j2 s' k' hs' hk'⟩ (by simp only; omega)
                dsimp only at this
                rw [← nI_1] at this
                refine kX_to _ _ rfl rfl rfl ?_ this
                funext c; unfold  va_up; repeat' split
                all_goals first | rfl | omega | (subst_vars; rfl) | (funext j; unfold upd; repeat' split; all_goals first | rfl | omega | (subst_vars; rfl))
          rcases hq with rfl | ⟨r, k, hr4, hk6, rfl, hE⟩
          · iterate 8 (refine kX_one rfl ?_)
            exact kX_lv _ rfl rfl rfl (loop .null 0 0 0 (by decide) (by decide) (by decide) (fun j hj => absurd hj (Nat.not_lt_zero j)) (Or.inl rfl) (0, A1) ⟨Nat.zero_le _, hV1⟩)
          · obtain ⟨t, mm, qq, t1, m6, -, t2, m2, -, bd, -⟩ := hE
            iterate 4 (refine kX_one rfl ?_)
            refine kX_getN rfl rfl (kT_ev hr4 hk6) rfl ?_
            refine kX_top (m2) ?_
            iterate 3 (refine kX_one rfl ?_)
            exact kX_lv _ rfl rfl rfl (loop (.ref (28 + 35 * r + 5 * k)) r k mm hr4 hk6 m6 (fun j hj => ⟨rfl, by
              obtain ⟨p, p1, p2⟩ := (bd j hj).1
              exact ⟨p, p1, (congrFun (eo A1 (28 + 35 * r + 5 * k + 1) (e181 r k hr4 hk6)) j).symm.trans p2⟩⟩) (Or.inr rfl) (0, A1) ⟨Nat.zero_le _, hV1⟩)
        iterate 2 (refine kX_one rfl ?_)
        refine kX_cal htb rfl (Or.inr rfl) rfl rfl rfl (fun r1 τ q1 => ?_)
        obtain ⟨⟨w, rfl⟩, hA⟩ := q1
        refine kX_ret (i := .ireturn) (len := 1) rfl (Or.inr rfl) rfl (⟨⟨_, rfl⟩, hA⟩)
      · repeat refine kX_one rfl ?_
        refine kX_ret (i := .ireturn) (len := 1) rfl (Or.inr rfl) rfl (⟨⟨_, rfl⟩, cAfter_same h⟩)
  · repeat refine kX_one rfl ?_
    refine kX_ret (i := .ireturn) (len := 1) rfl (Or.inr rfl) rfl (⟨⟨_, rfl⟩, cAfter_same h⟩)
end
section
/-! the class: broken -/
def cB (σ : kS) (n R S C : Nat) : Prop := cRo σ n R ∧ (S ≤ 4 ∧ σ 13 6 = nI S ∧ ∀ s, s < S → ∃ r, r < R ∧ σ 15 s = nI r) ∧ cCl σ C
theorem cB_of {σ : kS} {n R S C : Nat} (h : cJ σ n R S C) : cB σ n R S C := ⟨h.2.1, ⟨h.2.2.1.1, h.2.2.1.2.1, h.2.2.1.2.2.1⟩, h.2.2.2.1⟩
theorem cB_eq {σ τ : kS} {n R S C : Nat} (e : ∀ c, 13 ≤ c → c < 181 → τ c = σ c) (h : cB σ n R S C) : cB τ n R S C := by
  obtain ⟨h1, ⟨a1, a2, a3⟩, h3⟩ := h
  refine ⟨cRo_gr (Nat.le_refl _) (fun c c1 c2 => e c c1 (by omega)) h1, ⟨a1, by rw [e 13 (by decide) (by decide)]; exact a2, by rw [e 15 (by decide) (by decide)]; exact a3⟩, cCl_eq (by rw [e 13 (by decide) (by decide)]) (fun c c1 c2 => e c (by omega) (by omega)) h3⟩
set_option maxRecDepth 100000 in
set_option maxHeartbeats 4000000 in
theorem mc_isPartner (L : Nat) (xs : Nat → Int32) (d : Nat) (σ : kS) (n R S C A M base c s s' : Nat) (g0 : Nat → Int32) (hB : cB σ n R S C) (hc : c < C) (hs : s < S) (hs' : s' < S) (hA : kT[A]? = some (.inl (0, M, .inl g0))) (hM : M ≤ 100000) (hbm : base + 28 ≤ M) : kXM kT L xs (d + 2) 27 [.ref 13, .ref (163 + 3 * c), .ref A, .int (nI base), .int (nI s), .int (nI s')] σ (fun q σ' => (q = some (.int 0) ∨ q = some (.int 1)) ∧ σ = σ') := by
  obtain ⟨hRo, ⟨hS4, hSc, hSr⟩, hC6, hCc, hCl⟩ := hB
  have hc6 : c < 6 := by omega
  obtain ⟨a1, jn, j1, j2, j3⟩ := hCl c hc
  unfold kXM
  iterate 3 (refine kX_one rfl ?_)
  refine kX_ialdN rfl rfl (by decide) (s') (by first | rfl | decide) (by omega) ?_
  iterate 1 (refine kX_one rfl ?_)
  refine kX_getN rfl rfl (kT_cl hc6) rfl ?_
  repeat refine kX_one rfl ?_
  refine kX_if (fun q => ?_) (fun q => ?_)
  · repeat refine kX_one rfl ?_
    refine kX_ret (i := .ireturn) (len := 1) rfl (Or.inr rfl) rfl (⟨Or.inl rfl, rfl⟩)
  iterate 4 (refine kX_one rfl ?_)
  refine kX_cal (mc_doneBy L xs d σ A M base s' g0 hA hM (by omega)) rfl (Or.inr rfl) rfl rfl rfl (fun r1 σ1 q1 => ?_)
  obtain ⟨rfl, rfl⟩ := q1
  iterate 1 (refine kX_one rfl ?_)
  refine kX_getN rfl rfl (kT_cl hc6) rfl ?_
  repeat refine kX_one rfl ?_
  refine kX_if (fun q => ?_) (fun q => ?_)
  · have loop : ∀ q : Nat, q ≤ jn → kX kT L xs (d + 2) 27 34 [(6, .int (nI q)), (0, .ref 13), (1, .ref (163 + 3 * c)), (2, .ref A), (3, .int (nI base)), (4, .int (nI s)), (5, .int (nI s'))] [] σ (fun q σ' => (q = some (.int 0) ∨ q = some (.int 1)) ∧ σ = σ') := by
      refine kX_while (fun q => [(6, .int (nI q)), (0, .ref 13), (1, .ref (163 + 3 * c)), (2, .ref A), (3, .int (nI base)), (4, .int (nI s)), (5, .int (nI s'))]) (fun _ => σ) _ (fun q => jn - q) ?_
      intro i i1 ih
      iterate 2 (refine kX_one rfl ?_)
      refine kX_getN rfl rfl (kT_cl hc6) rfl ?_
      refine kX_top (j2) ?_
      repeat refine kX_one rfl ?_
      refine kX_if (fun q => ?_) (fun q => ?_)
      · repeat refine kX_one rfl ?_
        refine kX_ret (i := .ireturn) (len := 1) rfl (Or.inr rfl) rfl (⟨Or.inr rfl, rfl⟩)
      · have q := qgeF q i jn
        obtain ⟨⟨x, x1, x2⟩, y, y1, y2⟩ := j3 i q
        iterate 5 (refine kX_one rfl ?_)
        refine kX_getN rfl rfl (kT_cl hc6) rfl ?_
        iterate 1 (refine kX_one rfl ?_)
        refine kX_ialdV rfl ((kT_c1 hc6).1) (by decide) (i) (by first | rfl | decide) (by omega) (x2) ?_
        refine kX_cal (mc_valueOf L xs d σ A M base s x g0 hA hM (by omega)) rfl (Or.inr rfl) rfl rfl rfl (fun r1 σ1 q1 => ?_)
        obtain ⟨rfl, rfl⟩ := q1
        repeat refine kX_one rfl ?_
        refine kX_if (fun q2 => ?_) (fun q2 => ?_)
        · repeat refine kX_one rfl ?_
          refine kX_ret (i := .ireturn) (len := 1) rfl (Or.inr rfl) rfl (⟨Or.inl rfl, rfl⟩)
        · iterate 6 (refine kX_one rfl ?_)
          refine kX_getN rfl rfl (kT_cl hc6) rfl ?_
          iterate 1 (refine kX_one rfl ?_)
          refine kX_ialdV rfl ((kT_c1 hc6).2) (by decide) (i) (by first | rfl | decide) (by omega) (y2) ?_
          refine kX_cal (mc_valueOf L xs d σ A M base s' y g0 hA hM (by omega)) rfl (Or.inr rfl) rfl rfl rfl (fun r1 σ1 q1 => ?_)
          obtain ⟨rfl, rfl⟩ := q1
          repeat refine kX_one rfl ?_
          refine kX_if (fun q3 => ?_) (fun q3 => ?_)
          · iterate 2 (refine kX_one rfl ?_)
            have := ih (i + 1) (by omega) (by omega)
            rw [← nI_1] at this
            exact kX_lv _ rfl rfl rfl this
          · repeat refine kX_one rfl ?_
            refine kX_ret (i := .ireturn) (len := 1) rfl (Or.inr rfl) rfl (⟨Or.inl rfl, rfl⟩)
    iterate 2 (refine kX_one rfl ?_)
    exact kX_lv _ rfl rfl rfl (loop 0 (Nat.zero_le _))
  · repeat refine kX_one rfl ?_
    refine kX_ret (i := .ireturn) (len := 1) rfl (Or.inr rfl) rfl (⟨Or.inl rfl, rfl⟩)
set_option maxRecDepth 100000 in
set_option maxHeartbeats 4000000 in
theorem mc_canPartner (L : Nat) (xs : Nat → Int32) (σ : kS) (n R S C A M base c : Nat) (g0 : Nat → Int32) (hB : cB σ n R S C) (hc : c < C) (hA : kT[A]? = some (.inl (0, M, .inl g0))) (hM : M ≤ 100000) (hbm : base + 28 ≤ M) : ∀ (m d s : Nat) (w : Int32), s + m = S → kXM kT L xs (d + m + 3) 26 [.ref 13, .ref (163 + 3 * c), .ref A, .int (nI base), .int (nI s), .int w] σ (fun q σ' => (q = some (.int 0) ∨ q = some (.int 1)) ∧ σ = σ') := by
  have hRo := hB.1
  have hS4 := hB.2.1.1
  have hSc := hB.2.1.2.1
  have hSr := hB.2.1.2.2
  have hC6 := hB.2.2.1
  have hc6 : c < 6 := by omega
  intro m
  induction m with
  | zero =>
    intro d s w hsm
    unfold kXM
    iterate 3 (refine kX_one rfl ?_)
    refine kX_top (hSc) ?_
    repeat refine kX_one rfl ?_
    refine kX_if (fun q => ?_) (fun q => ?_)
    · have q := qlt q s S
      omega
    · repeat refine kX_one rfl ?_
      refine kX_ret (i := .ireturn) (len := 1) rfl (Or.inr rfl) rfl (⟨Or.inr rfl, rfl⟩)
  | succ m IH =>
    intro d s w hsm
    have hs : s < S := by omega
    have hs4 : s < 4 := by omega
    unfold kXM
    iterate 3 (refine kX_one rfl ?_)
    refine kX_top (hSc) ?_
    repeat refine kX_one rfl ?_
    refine kX_if (fun q => ?_) (fun q => ?_)
    · have k46 : kX kT L xs (d + (m + 1) + 3) 26 46 [(0, .ref 13), (1, .ref (163 + 3 * c)), (2, .ref A), (3, .int (nI base)), (4, .int (nI s)), (5, .int w)] [] σ (fun q σ' => (q = some (.int 0) ∨ q = some (.int 1)) ∧ σ = σ') := by
        iterate 7 (refine kX_one rfl ?_)
        refine kX_top (y := nI (s + 1)) (nI_1 s) ?_
        iterate 1 (refine kX_one rfl ?_)
        refine kX_cal (IH d (s + 1) w (by omega)) rfl (Or.inr rfl) rfl rfl rfl (fun r1 σ1 q1 => ?_)
        obtain ⟨hq, rfl⟩ := q1
        rcases hq with rfl | rfl
        · refine kX_ret (i := .ireturn) (len := 1) rfl (Or.inr rfl) rfl (⟨Or.inl rfl, rfl⟩)
        · refine kX_ret (i := .ireturn) (len := 1) rfl (Or.inr rfl) rfl (⟨Or.inr rfl, rfl⟩)
      have loop : ∀ q : Nat, q ≤ S → kX kT L xs (d + (m + 1) + 3) 26 63 [(6, .int (nI q)), (0, .ref 13), (1, .ref (163 + 3 * c)), (2, .ref A), (3, .int (nI base)), (4, .int (nI s)), (5, .int w)] [] σ (fun q σ' => (q = some (.int 0) ∨ q = some (.int 1)) ∧ σ = σ') := by
        refine kX_while (fun q => [(6, .int (nI q)), (0, .ref 13), (1, .ref (163 + 3 * c)), (2, .ref A), (3, .int (nI base)), (4, .int (nI s)), (5, .int w)]) (fun _ => σ) _ (fun q => S - q) ?_
        intro i i1 ih
        iterate 3 (refine kX_one rfl ?_)
        refine kX_top (hSc) ?_
        repeat refine kX_one rfl ?_
        refine kX_if (fun q => ?_) (fun q => ?_)
        · repeat refine kX_one rfl ?_
          refine kX_ret (i := .ireturn) (len := 1) rfl (Or.inr rfl) rfl (⟨Or.inl rfl, rfl⟩)
        · have q := qgeF q i S
          have k138 : ∀ lv, nk lv = true → ([(6, .int (nI i)), (0, .ref 13), (1, .ref (163 + 3 * c)), (2, .ref A), (3, .int (nI base)), (4, .int (nI s)), (5, .int w)] : jL).map (fun q => jl lv q.1) = ([(6, .int (nI i)), (0, .ref 13), (1, .ref (163 + 3 * c)), (2, .ref A), (3, .int (nI base)), (4, .int (nI s)), (5, Value.int w)] : jL).map (fun q => some q.2) → kX kT L xs (d + (m + 1) + 3) 26 138 lv [] σ (fun q σ' => (q = some (.int 0) ∨ q = some (.int 1)) ∧ σ = σ') := by
            intro lv hk hlv
            refine kX_lv _ hk rfl hlv ?_
            iterate 2 (refine kX_one rfl ?_)
            have := ih (i + 1) (by omega) (by omega)
            rw [← nI_1] at this
            exact kX_lv _ rfl rfl rfl this
          repeat refine kX_one rfl ?_
          refine kX_if (fun q2 => ?_) (fun q2 => ?_)
          · iterate 4 (refine kX_one rfl ?_)
            exact k138 _ rfl rfl
          · repeat refine kX_one rfl ?_
            refine kX_if (fun q3 => ?_) (fun q3 => ?_)
            · iterate 4 (refine kX_one rfl ?_)
              exact k138 _ rfl rfl
            · iterate 11 (refine kX_one rfl ?_)
              refine kX_cal (mc_isPartner L xs (d + m + 1) σ n R S C A M base c s i g0 hB hc hs q hA hM hbm) rfl (Or.inr rfl) rfl rfl rfl (fun r1 σ1 q1 => ?_)
              obtain ⟨hq, rfl⟩ := q1
              rcases hq with rfl | rfl
              · iterate 1 (refine kX_one rfl ?_)
                exact k138 _ rfl rfl
              · iterate 8 (refine kX_one rfl ?_)
                refine kX_top (y := nI (s + 1)) (nI_1 s) ?_
                iterate 5 (refine kX_one rfl ?_)
                refine kX_cal (IH d (s + 1) _ (by omega)) rfl (Or.inr rfl) rfl rfl rfl (fun r1 σ1 q1 => ?_)
                obtain ⟨hq, rfl⟩ := q1
                rcases hq with rfl | rfl
                · iterate 1 (refine kX_one rfl ?_)
                  exact k138 _ rfl rfl
                · repeat refine kX_one rfl ?_
                  refine kX_ret (i := .ireturn) (len := 1) rfl (Or.inr rfl) rfl (⟨Or.inr rfl, rfl⟩)
      iterate 3 (refine kX_one rfl ?_)
      refine kX_ialdN rfl rfl (by decide) (s) (by first | rfl | decide) (hs4) ?_
      iterate 1 (refine kX_one rfl ?_)
      refine kX_getN rfl rfl (kT_cl hc6) rfl ?_
      repeat refine kX_one rfl ?_
      refine kX_if (fun q2 => ?_) (fun q2 => ?_)
      · exact kX_lv _ rfl rfl rfl k46
      · iterate 3 (refine kX_one rfl ?_)
        refine kX_baldN rfl rfl (by decide) (s) (by first | rfl | decide) (hs4) ?_
        repeat refine kX_one rfl ?_
        refine kX_if (fun q3 => ?_) (fun q3 => ?_)
        · exact kX_lv _ rfl rfl rfl k46
        · iterate 4 (refine kX_one rfl ?_)
          refine kX_cal (mc_hasDoneAll L xs (d + m + 1) σ n R S A M base s g0 hRo hS4 hSr hs hA hM hbm) rfl (Or.inr rfl) rfl rfl rfl (fun r1 σ1 q1 => ?_)
          obtain ⟨hq, rfl⟩ := q1
          rcases hq with rfl | rfl
          · iterate 1 (refine kX_one rfl ?_)
            exact kX_lv _ rfl rfl rfl k46
          · iterate 3 (refine kX_one rfl ?_)
            exact kX_lv _ rfl rfl rfl (loop 0 (Nat.zero_le _))
    · have q := qltF q s S
      omega
set_option maxRecDepth 100000 in
set_option maxHeartbeats 4000000 in
theorem mc_leaks (L : Nat) (xs : Nat → Int32) (d : Nat) (σ : kS) (n R S C A M base c K st u : Nat) (g0 : Nat → Int32) (hB : cB σ n R S C) (hc : c < C) (hA : kT[A]? = some (.inl (0, M, .inl g0))) (hM : M ≤ 100000) (hbm : base + 28 ≤ M) (hK : nB σ K st n u) (hR : nR σ K) (hsec : σ (163 + 3 * c) 0 ≠ 0) : kXM kT L xs (d + 52) 25 [.ref 13, .ref (163 + 3 * c), .ref A, .int (nI base), .ref K] σ (fun q σ' => (q = some (.int 0) ∨ q = some (.int 1)) ∧ nP σ σ' K) := by
  have hS4 := hB.2.1.1
  have hC6 := hB.2.2.1
  have hc6 : c < 6 := by omega
  have hKb := isK_b hK.1
  have loop : ∀ q : Nat × kS, (q.1 ≤ S ∧ nP σ q.2 K) → kX kT L xs (d + 52) 25 3 [(5, .int (nI q.1)), (0, .ref 13), (1, .ref (163 + 3 * c)), (2, .ref A), (3, .int (nI base)), (4, .ref K)] [] q.2 (fun q σ' => (q = some (.int 0) ∨ q = some (.int 1)) ∧ nP σ σ' K) := by
    refine kX_while (fun q : Nat × kS => [(5, .int (nI q.1)), (0, .ref 13), (1, .ref (163 + 3 * c)), (2, .ref A), (3, .int (nI base)), (4, .ref K)]) (fun q => q.2) _ (fun q => S - q.1) ?_
    rintro ⟨i, τ⟩ ⟨i1, i2⟩ ih
    dsimp only at i1 i2 ih ⊢
    have hBt : cB τ n R S C := cB_eq (fun e e1 e2 => i2.1 e (by omega)) hB
    obtain ⟨v, v1, v2⟩ := (hBt.2.2.2.2 c hc).1 (by rw [i2.1 (163 + 3 * c) (by omega)]; exact hsec)
    iterate 3 (refine kX_one rfl ?_)
    refine kX_top (hBt.2.1.2.1) ?_
    repeat refine kX_one rfl ?_
    refine kX_if (fun q => ?_) (fun q => ?_)
    · repeat refine kX_one rfl ?_
      refine kX_ret (i := .ireturn) (len := 1) rfl (Or.inr rfl) rfl (⟨Or.inl rfl, i2⟩)
    · have q := qgeF q i S
      have k59 : ∀ τ', nP σ τ' K → kX kT L xs (d + 52) 25 59 [(5, .int (nI i)), (0, .ref 13), (1, .ref (163 + 3 * c)), (2, .ref A), (3, .int (nI base)), (4, .ref K)] [] τ' (fun q σ' => (q = some (.int 0) ∨ q = some (.int 1)) ∧ nP σ σ' K) := by
        intro τ' ht
        iterate 2 (refine kX_one rfl ?_)
        have := ih (i + 1, τ') ⟨q, ht⟩ (by simp only; omega)
        dsimp only at this
        rw [← nI_1] at this
        exact kX_lv _ rfl rfl rfl this
      iterate 3 (refine kX_one rfl ?_)
      refine kX_ialdN rfl rfl (by decide) (i) (by first | rfl | decide) (by omega) ?_
      iterate 1 (refine kX_one rfl ?_)
      refine kX_getN rfl rfl (kT_cl hc6) rfl ?_
      repeat refine kX_one rfl ?_
      refine kX_if (fun q2 => ?_) (fun q2 => ?_)
      · exact k59 τ i2
      · iterate 3 (refine kX_one rfl ?_)
        refine kX_baldN rfl rfl (by decide) (i) (by first | rfl | decide) (by omega) ?_
        repeat refine kX_one rfl ?_
        refine kX_if (fun q3 => ?_) (fun q3 => ?_)
        · exact k59 τ i2
        · iterate 6 (refine kX_one rfl ?_)
          refine kX_getN rfl rfl (kT_cl hc6) rfl ?_
          refine kX_top (v2) ?_
          refine kX_cal (mc_valueOf L xs (d + 50) τ A M base i v g0 hA hM (by omega)) rfl (Or.inr rfl) rfl rfl rfl (fun r1 σ1 q1 => ?_)
          obtain ⟨rfl, rfl⟩ := q1
          iterate 1 (refine kX_one rfl ?_)
          refine kX_cal (mc_canMake L xs K st n u 49 d 0 τ (τ A (base + 7 * i + 1 + v)) rfl (nB_P hK i2) i2.2.2.2) rfl (Or.inr rfl) rfl (jcall_v rfl rfl rfl (kT_kn hK.1) rfl rfl) rfl (fun r1 ω q1 => ?_)
          obtain ⟨hq, hP⟩ := q1
          rcases hq with rfl | rfl
          · iterate 1 (refine kX_one rfl ?_)
            exact k59 ω (nP_trans i2 hP)
          · repeat refine kX_one rfl ?_
            refine kX_ret (i := .ireturn) (len := 1) rfl (Or.inr rfl) rfl (⟨Or.inr rfl, nP_trans i2 hP⟩)
  unfold kXM
  iterate 2 (refine kX_one rfl ?_)
  exact kX_lv _ rfl rfl rfl (loop (0, σ) ⟨Nat.zero_le _, nP_refl hR⟩)
set_option maxRecDepth 100000 in
set_option maxHeartbeats 4000000 in
theorem mc_breaks (L : Nat) (xs : Nat → Int32) (d : Nat) (σ : kS) (n R S C A M base c K st u : Nat) (g0 : Nat → Int32) (hB : cB σ n R S C) (hc : c < C) (hA : kT[A]? = some (.inl (0, M, .inl g0))) (hM : M ≤ 100000) (hbm : base + 28 ≤ M) (hK : nB σ K st n u) (hR : nR σ K) : kXM kT L xs (d + 53) 24 [.ref 13, .int (nI c), .ref A, .int (nI base), .ref K] σ (fun q σ' => (q = some (.int 0) ∨ q = some (.int 1)) ∧ nP σ σ' K) := by
  have hS4 := hB.2.1.1
  have hC6 := hB.2.2.1
  have hc6 : c < 6 := by omega
  unfold kXM
  iterate 3 (refine kX_one rfl ?_)
  refine kX_aaldN rfl (rfl) (by decide) (by decide) (by decide) (c) (by first | rfl | decide) (hc6) (cl_at hc6) ?_
  iterate 2 (refine kX_one rfl ?_)
  refine kX_getN rfl rfl (kT_cl hc6) rfl ?_
  repeat refine kX_one rfl ?_
  refine kX_if (fun q => ?_) (fun q => ?_)
  · iterate 6 (refine kX_one rfl ?_)
    have hp := mc_canPartner L xs σ n R S C A M base c g0 hB hc hA hM hbm S (d + (49 - S)) 0 0 (by omega)
    rw [show d + (49 - S) + S + 3 = d + 52 by omega] at hp
    refine kX_cal hp rfl (Or.inr rfl) rfl rfl rfl (fun r1 ω q1 => ?_)
    obtain ⟨hq, rfl⟩ := q1
    rcases hq with rfl | rfl
    · repeat refine kX_one rfl ?_
      refine kX_ret (i := .ireturn) (len := 1) rfl (Or.inr rfl) rfl (⟨Or.inr rfl, nP_refl hR⟩)
    · repeat refine kX_one rfl ?_
      refine kX_ret (i := .ireturn) (len := 1) rfl (Or.inr rfl) rfl (⟨Or.inl rfl, nP_refl hR⟩)
  · iterate 5 (refine kX_one rfl ?_)
    refine kX_cal (mc_leaks L xs d σ n R S C A M base c K st u g0 hB hc hA hM hbm hK hR (qeqF q)) rfl (Or.inr rfl) rfl rfl rfl (fun r1 ω q1 => ?_)
    obtain ⟨hq, hP⟩ := q1
    rcases hq with rfl | rfl
    · repeat refine kX_one rfl ?_
      refine kX_ret (i := .ireturn) (len := 1) rfl (Or.inr rfl) rfl (⟨Or.inl rfl, hP⟩)
    · repeat refine kX_one rfl ?_
      refine kX_ret (i := .ireturn) (len := 1) rfl (Or.inr rfl) rfl (⟨Or.inr rfl, hP⟩)
set_option maxRecDepth 100000 in
set_option maxHeartbeats 4000000 in
theorem mk_broken (L : Nat) (xs : Nat → Int32) (d : Nat) (σ : kS) (n R S C : Nat) (x : Int32) (h : cJ σ n R S C) : kXM kT L xs (d + 56) 130 [.ref 0, .int x] σ (fun r σ' => (∃ x, r = some (.int x)) ∧ cAfter σ σ' R) := by
  have hcl := h.2.2.2.1
  unfold kXM
  iterate 3 (refine kX_one rfl ?_)
  refine kX_cal (mc_hasClaim L xs (d + 54) σ C x hcl.1 hcl.2.1) rfl (Or.inr rfl) rfl rfl rfl (fun r1 σ1 q1 => ?_)
  obtain ⟨rfl, rfl⟩ := q1
  repeat refine kX_one rfl ?_
  refine kX_if (fun q => ?_) (fun q => ?_)
  · obtain ⟨c, hc, rfl⟩ := isB_ne.mp (qne q)
    repeat refine kX_one rfl ?_
    refine kX_if (fun q2 => ?_) (fun q2 => ?_)
    · repeat refine kX_one rfl ?_
      refine kX_ret (i := .ireturn) (len := 1) rfl (Or.inr rfl) rfl (⟨⟨_, rfl⟩, cAfter_same h⟩)
    · have hon : σ 181 8 ≠ 0 := qeqF q2
      iterate 9 (refine kX_one rfl ?_)
      refine kX_cal (mc_intruder L xs d σ n R S C h hon) rfl (Or.inr rfl) rfl rfl rfl (fun r1 τ q1 => ?_)
      obtain ⟨rfl, i1, i2, ⟨u, i3⟩, -⟩ := q1
      refine kX_cal (mc_breaks L xs (d + 2) τ n R S C 182 28 0 c 186 200 u (fun _ => 0) (cB_of i2) hc rfl (by decide) (by decide) i3.1 i3.2.1) rfl (Or.inr rfl) rfl rfl rfl (fun r1 ω q1 => ?_)
      obtain ⟨hq, hP⟩ := q1
      have hA : cAfter σ ω R := ⟨cHi_trans i1 (fun c hc => hP.1 c (by omega)), n, S, C, cJ_P i2 i3 hP⟩
      rcases hq with rfl | rfl
      · refine kX_cal (mc_asNumber L xs (d + 54) ω _) rfl (Or.inr rfl) rfl rfl rfl (fun r1 σ1 q1 => ?_)
        obtain ⟨rfl, rfl⟩ := q1
        repeat refine kX_one rfl ?_
        refine kX_ret (i := .ireturn) (len := 1) rfl (Or.inr rfl) rfl (⟨⟨_, rfl⟩, hA⟩)
      · refine kX_cal (mc_asNumber L xs (d + 54) ω _) rfl (Or.inr rfl) rfl rfl rfl (fun r1 σ1 q1 => ?_)
        obtain ⟨rfl, rfl⟩ := q1
        repeat refine kX_one rfl ?_
        refine kX_ret (i := .ireturn) (len := 1) rfl (Or.inr rfl) rfl (⟨⟨_, rfl⟩, hA⟩)
  · repeat refine kX_one rfl ?_
    refine kX_ret (i := .ireturn) (len := 1) rfl (Or.inr rfl) rfl (⟨⟨_, rfl⟩, cAfter_same h⟩)
end
section
/-! the class: receive -/
theorem kX_acpyN {T : List jC} {L : Nat} {xs : Nat → Int32} {d mi pc : Nat} {lv : jL} {σ : kS} {Q : Option Value → kS → Prop} {x y z : Int32} {a0 a n0 n1 idx : Nat} {f0 g0 : Nat → Int32} {rest : List Value} (hi : jm_ins mi pc = some (.invokestatic idx, 3)) (hm : jm_mm (jm_own mi) idx = none) (hc : jm_ac (jm_own mi) idx = true) (ht : jm_mth (jm_own mi) idx = none) (h0 : T[a0]? = some (.inl (0, n0, .inl f0))) (h1 : T[a]? = some (.inl (0, n1, .inl g0))) (sp dp n : Nat) (hx : x = nI sp) (hy : y = nI dp) (hz : z = nI n) (b0 : sp + n ≤ n0) (b1 : dp + n ≤ n1) (m0 : n0 ≤ 100000) (m1 : n1 ≤ 100000) (hr : (rest.map fun v => v.category).sum ≤ 8) (g : kX T L xs (d + 1) mi (pc + 3) lv rest (va_up σ a (va_cpy (σ a0) (σ a) sp dp n)) Q) : kX T L xs (d + 1) mi pc lv (.int z :: .int y :: .ref a :: .int x :: .ref a0 :: rest) σ Q := by
  subst hx hy hz
  have c1 : (nI sp).toNatClampNeg = sp := nI_clamp (by omega)
  have c2 : (nI dp).toNatClampNeg = dp := nI_clamp (by omega)
  have c3 : (nI n).toNatClampNeg = n := nI_clamp (by omega)
  have p1 : ¬ nI sp < 0 := nI_pos (by omega)
  have p2 : ¬ nI dp < 0 := nI_pos (by omega)
  have p3 : ¬ nI n < 0 := nI_pos (by omega)
  exact kX_one (by unfold kone; rw [hi]; simp [jlen, kplain, jend, jcall, jA, kH, hm, hc, ht, h0, h1, p1, p2, p3, c1, c2, c3, b0, b1, hr]) g
def tP (σ τ : kS) (n : Nat) : Prop := (∀ c, c ≠ 185 → τ c = σ c) ∧ ∀ k, k < 6 → gV σ n (τ 185 k)
theorem tP_trans {σ τ ρ : kS} {n : Nat} (h1 : tP σ τ n) (h2 : tP τ ρ n) : tP σ ρ n := ⟨fun c hc => (h2.1 c hc).trans (h1.1 c hc), fun k hk => gV_up (Nat.le_refl _) (fun z _ => by rw [h1.1 8 (by decide)]) (h2.2 k hk)⟩
theorem cT_tP {σ τ : kS} {n : Nat} (h : tP σ τ n) (hT : cT σ n) : cT τ n := cT_eq (by rw [h.1 1 (by decide)]) (h.1 _ (by decide)) (fun u _ => ⟨by rw [h.1 2 (by decide)], by rw [h.1 3 (by decide)], by rw [h.1 4 (by decide)], by rw [h.1 8 (by decide)], by rw [h.1 12 (by decide)], by rw [h.1 6 (by decide)]⟩) hT
theorem cG_ch {σ : kS} {n v : Nat} (hT : cT σ n) (hv : v < n) (hg : σ 8 v = 1) : cG σ n (σ 3 v) ∧ cG σ n (σ 4 v) := by
  have hn := hT.1
  obtain ⟨-, c1, c2, -, b1, b2, -⟩ := hT.2.2.2 v hv
  have hk : σ 2 v ≠ nI 3 := fun e => by
    have := (b1 e).1
    rw [hg] at this
    exact absurd this (by decide)
  obtain ⟨g1, g2⟩ := (b2 hk).mp hg
  have key : ∀ c, cCh v c → cG σ v c → cG σ n c := fun c hc hg z z1 z2 => by
    rcases hc with q | ⟨w, w1, w2, w3⟩
    · exact absurd (z2.symm.trans q) (nI_m1 (by omega))
    · have := nI_inj (z2.symm.trans w2)
      exact hg z (by omega) z2
  exact ⟨key _ c1 g1, key _ c2 g2⟩
set_option maxRecDepth 100000 in
set_option maxHeartbeats 4000000 in
theorem mc_mayStand (L : Nat) (xs : Nat → Int32) (d : Nat) (σ : kS) (n p v : Nat) (hT : cT σ n) (hp : p < n) (hv : v < n) (hgv : σ 8 v = 1) (hk : σ 2 p = nI 3) (hV : ∀ k, k < 6 → gV σ n (σ 185 k)) : kXM kT L xs (d + 1) 75 [.ref 181, .int (nI p), .int (nI v)] σ (fun q σ' => (q = some (.int 0) ∨ q = some (.int 1)) ∧ tP σ σ' n) := by
  have hn := hT.1
  obtain ⟨-, pl, hpl, hpl2⟩ := (hT.2.2.2 p hp).2.2.2.2.1 hk
  have hsame : tP σ σ n := ⟨fun _ _ => rfl, hV⟩
  unfold kXM
  iterate 4 (refine kX_one rfl ?_)
  refine kX_ialdV rfl rfl (by decide) (p) (by first | rfl | decide) (by omega) (hpl2) ?_
  iterate 5 (refine kX_one rfl ?_)
  refine kX_ialdN rfl rfl (by decide) (p) (by first | rfl | decide) (by omega) ?_
  have k69 : kX kT L xs (d + 1) 75 69 [(3, .int (nI pl)), (0, .ref 181), (1, .int (nI p)), (2, .int (nI v))] [] σ (fun q σ' => (q = some (.int 0) ∨ q = some (.int 1)) ∧ tP σ σ' n) := by
    iterate 4 (refine kX_one rfl ?_)
    refine kX_iastN rfl rfl (by decide) (pl) (by first | rfl | decide) (hpl) ?_
    repeat refine kX_one rfl ?_
    refine kX_ret (i := .ireturn) (len := 1) rfl (Or.inr rfl) rfl ⟨Or.inr rfl, fun c hc => up_ne hc, fun k hk => ?_⟩
    rw [up_eq]
    by_cases e : k = pl
    · subst e
      rw [pk_us]
      exact Or.inr ⟨v, hv, rfl, hgv⟩
    · rw [pk_un e]
      exact hV k hk
  iterate 4 (refine kX_one rfl ?_)
  refine kX_ialdN rfl rfl (by decide) (pl) (by first | rfl | decide) (hpl) ?_
  repeat refine kX_one rfl ?_
  refine kX_if (fun q => ?_) (fun q => ?_)
  · repeat refine kX_one rfl ?_
    refine kX_if (fun q2 => ?_) (fun q2 => ?_)
    · exact kX_lv _ rfl rfl rfl k69
    · iterate 4 (refine kX_one rfl ?_)
      refine kX_ialdN rfl rfl (by decide) (v) (by first | rfl | decide) (by omega) ?_
      repeat refine kX_one rfl ?_
      refine kX_if (fun q3 => ?_) (fun q3 => ?_)
      · exact kX_lv _ rfl rfl rfl k69
      · repeat refine kX_one rfl ?_
        refine kX_ret (i := .ireturn) (len := 1) rfl (Or.inr rfl) rfl (⟨Or.inl rfl, hsame⟩)
  · iterate 3 (refine kX_one rfl ?_)
    refine kX_ialdN rfl rfl (by decide) (pl) (by first | rfl | decide) (hpl) ?_
    repeat refine kX_one rfl ?_
    refine kX_if (fun q2 => ?_) (fun q2 => ?_)
    · repeat refine kX_one rfl ?_
      refine kX_ret (i := .ireturn) (len := 1) rfl (Or.inr rfl) rfl (⟨Or.inl rfl, hsame⟩)
    · repeat refine kX_one rfl ?_
      refine kX_ret (i := .ireturn) (len := 1) rfl (Or.inr rfl) rfl (⟨Or.inr rfl, hsame⟩)
set_option maxRecDepth 100000 in
set_option maxHeartbeats 4000000 in
theorem mc_matches (L : Nat) (xs : Nat → Int32) (n : Nat) : ∀ (m d dd : Nat) (σ : kS) (x y : Int32), dd + m = 49 → cT σ n → cG σ n y → (∀ k, k < 6 → gV σ n (σ 185 k)) → kXM kT L xs (d + m + 2) 74 [.ref 181, .int x, .int y, .int (nI dd)] σ (fun q σ' => (q = some (.int 0) ∨ q = some (.int 1)) ∧ tP σ σ' n) := by
  intro m
  induction m with
  | zero =>
    intro d dd σ x y hdd hT hy hV
    have hn := hT.1
    have hsame : tP σ σ n := ⟨fun _ _ => rfl, hV⟩
    obtain rfl : dd = 49 := by omega
    unfold kXM
    iterate 3 (refine kX_one rfl ?_)
    refine kX_cal (mc_has L xs d σ n x hn hT.2.1) rfl (Or.inr rfl) rfl rfl rfl (fun r1 σ1 q1 => ?_)
    obtain ⟨rfl, rfl⟩ := q1
    repeat refine kX_one rfl ?_
    refine kX_if (fun q => ?_) (fun q => ?_)
    · repeat refine kX_one rfl ?_
      refine kX_ret (i := .ireturn) (len := 1) rfl (Or.inr rfl) rfl (⟨Or.inl rfl, hsame⟩)
    · iterate 3 (refine kX_one rfl ?_)
      refine kX_cal (mc_has L xs d σ n y hn hT.2.1) rfl (Or.inr rfl) rfl rfl rfl (fun r1 σ1 q1 => ?_)
      obtain ⟨rfl, rfl⟩ := q1
      repeat refine kX_one rfl ?_
      refine kX_if (fun q2 => ?_) (fun q2 => ?_)
      · repeat refine kX_one rfl ?_
        refine kX_ret (i := .ireturn) (len := 1) rfl (Or.inr rfl) rfl (⟨Or.inl rfl, hsame⟩)
      · repeat refine kX_one rfl ?_
        refine kX_ret (i := .ireturn) (len := 1) rfl (Or.inr rfl) rfl (⟨Or.inl rfl, hsame⟩)
  | succ m IH =>
    intro d dd σ x y hdd hT hy hV
    have hn := hT.1
    have hsame : tP σ σ n := ⟨fun _ _ => rfl, hV⟩
    unfold kXM
    iterate 3 (refine kX_one rfl ?_)
    refine kX_cal (mc_has L xs (d + m + 1) σ n x hn hT.2.1) rfl (Or.inr rfl) rfl rfl rfl (fun r1 σ1 q1 => ?_)
    obtain ⟨rfl, rfl⟩ := q1
    repeat refine kX_one rfl ?_
    refine kX_if (fun q => ?_) (fun q => ?_)
    · repeat refine kX_one rfl ?_
      refine kX_ret (i := .ireturn) (len := 1) rfl (Or.inr rfl) rfl (⟨Or.inl rfl, hsame⟩)
    · obtain ⟨p, hp, rfl⟩ := isB_ne.mp (qeqF q)
      iterate 3 (refine kX_one rfl ?_)
      refine kX_cal (mc_has L xs (d + m + 1) σ n y hn hT.2.1) rfl (Or.inr rfl) rfl rfl rfl (fun r1 σ1 q1 => ?_)
      obtain ⟨rfl, rfl⟩ := q1
      repeat refine kX_one rfl ?_
      refine kX_if (fun q2 => ?_) (fun q2 => ?_)
      · repeat refine kX_one rfl ?_
        refine kX_ret (i := .ireturn) (len := 1) rfl (Or.inr rfl) rfl (⟨Or.inl rfl, hsame⟩)
      · obtain ⟨v, hv, rfl⟩ := isB_ne.mp (qeqF q2)
        have hgv : σ 8 v = 1 := hy v hv rfl
        obtain ⟨g1, g2⟩ := cG_ch hT hv hgv
        repeat refine kX_one rfl ?_
        refine kX_if (fun q3 => ?_) (fun q3 => ?_)
        · iterate 4 (refine kX_one rfl ?_)
          refine kX_baldN rfl rfl (by decide) (p) (by first | rfl | decide) (by omega) ?_
          repeat refine kX_one rfl ?_
          refine kX_if (fun q4 => ?_) (fun q4 => ?_)
          · iterate 4 (refine kX_one rfl ?_)
            refine kX_ialdN rfl rfl (by decide) (p) (by first | rfl | decide) (by omega) ?_
            repeat refine kX_one rfl ?_
            refine kX_if (fun q5 => ?_) (fun q5 => ?_)
            · iterate 4 (refine kX_one rfl ?_)
              refine kX_ialdN rfl rfl (by decide) (p) (by first | rfl | decide) (by omega) ?_
              iterate 4 (refine kX_one rfl ?_)
              refine kX_ialdN rfl rfl (by decide) (v) (by first | rfl | decide) (by omega) ?_
              repeat refine kX_one rfl ?_
              refine kX_if (fun q6 => ?_) (fun q6 => ?_)
              · iterate 5 (refine kX_one rfl ?_)
                refine kX_ialdN rfl rfl (by decide) (p) (by first | rfl | decide) (by omega) ?_
                iterate 4 (refine kX_one rfl ?_)
                refine kX_ialdN rfl rfl (by decide) (v) (by first | rfl | decide) (by omega) ?_
                iterate 3 (refine kX_one rfl ?_)
                refine kX_top (y := nI (dd + 1)) (nI_1 dd) ?_
                refine kX_cal (IH d (dd + 1) σ _ _ (by omega) hT g1 hV) rfl (Or.inr rfl) rfl rfl rfl (fun r1 τ q1 => ?_)
                obtain ⟨hq, hP⟩ := q1
                rcases hq with rfl | rfl
                · repeat refine kX_one rfl ?_
                  refine kX_ret (i := .ireturn) (len := 1) rfl (Or.inr rfl) rfl (⟨Or.inl rfl, hP⟩)
                · iterate 5 (refine kX_one rfl ?_)
                  refine kX_ialdN rfl rfl (by decide) (p) (by first | rfl | decide) (by omega) ?_
                  repeat refine kX_one rfl ?_
                  refine kX_if (fun q7 => ?_) (fun q7 => ?_)
                  · repeat refine kX_one rfl ?_
                    refine kX_ret (i := .ireturn) (len := 1) rfl (Or.inr rfl) rfl (⟨Or.inr rfl, hP⟩)
                  · iterate 5 (refine kX_one rfl ?_)
                    refine kX_ialdN rfl rfl (by decide) (p) (by first | rfl | decide) (by omega) ?_
                    iterate 4 (refine kX_one rfl ?_)
                    refine kX_ialdN rfl rfl (by decide) (v) (by first | rfl | decide) (by omega) ?_
                    iterate 3 (refine kX_one rfl ?_)
                    refine kX_top (y := nI (dd + 1)) (nI_1 dd) ?_
                    refine kX_cal (IH d (dd + 1) τ _ _ (by omega) (cT_tP hP hT) (by rw [hP.1 4 (by decide)]; exact (cG_eq (fun u _ => by rw [hP.1 8 (by decide)])).mpr g2) (fun k hk => gV_up (Nat.le_refl _) (fun z _ => by rw [hP.1 8 (by decide)]) (hP.2 k hk))) rfl (Or.inr rfl) rfl rfl rfl (fun r1 ω q1 => ?_)
                    obtain ⟨hq, hP2⟩ := q1
                    rcases hq with rfl | rfl
                    · repeat refine kX_one rfl ?_
                      refine kX_ret (i := .ireturn) (len := 1) rfl (Or.inr rfl) rfl (⟨Or.inl rfl, tP_trans hP hP2⟩)
                    · repeat refine kX_one rfl ?_
                      refine kX_ret (i := .ireturn) (len := 1) rfl (Or.inr rfl) rfl (⟨Or.inr rfl, tP_trans hP hP2⟩)
              · repeat refine kX_one rfl ?_
                refine kX_ret (i := .ireturn) (len := 1) rfl (Or.inr rfl) rfl (⟨Or.inl rfl, hsame⟩)
            · iterate 3 (refine kX_one rfl ?_)
              refine kX_cal (mc_mayStand L xs (d + m + 1) σ n p v hT hp hv hgv (qneF q5) hV) rfl (Or.inr rfl) rfl rfl rfl (fun r1 τ q1 => ?_)
              obtain ⟨hq, hP⟩ := q1
              rcases hq with rfl | rfl
              · refine kX_ret (i := .ireturn) (len := 1) rfl (Or.inr rfl) rfl (⟨Or.inl rfl, hP⟩)
              · refine kX_ret (i := .ireturn) (len := 1) rfl (Or.inr rfl) rfl (⟨Or.inr rfl, hP⟩)
          · repeat refine kX_one rfl ?_
            refine kX_if (fun q5 => ?_) (fun q5 => ?_)
            · repeat refine kX_one rfl ?_
              refine kX_ret (i := .ireturn) (len := 1) rfl (Or.inr rfl) rfl (⟨Or.inl rfl, hsame⟩)
            · repeat refine kX_one rfl ?_
              refine kX_ret (i := .ireturn) (len := 1) rfl (Or.inr rfl) rfl (⟨Or.inr rfl, hsame⟩)
        · repeat refine kX_one rfl ?_
          refine kX_ret (i := .ireturn) (len := 1) rfl (Or.inr rfl) rfl (⟨Or.inl rfl, hsame⟩)
def acP (σ τ : kS) (n S : Nat) : Prop := (∀ c, c ≠ 185 → c ≠ 182 → τ c = σ c) ∧ cV σ n S (τ 182) 0
set_option maxRecDepth 100000 in
set_option maxHeartbeats 4000000 in
theorem mc_accepts (L : Nat) (xs : Nat → Int32) (d : Nat) (σ : kS) (n S s r k t : Nat) (hT : cT σ n) (hS4 : S ≤ 4) (hs : s < S) (hr4 : r < 4) (hk6 : k < 6) (ht : t < n) (hg : σ 8 t = 1) (hV : cV σ n S (σ 182) 0) : kXM kT L xs (d + 52) 73 [.ref 181, .int (nI s), .ref (28 + 35 * r + 5 * k), .int (nI t)] σ (fun q σ' => (q = some (.int 0) ∨ q = some (.int 1)) ∧ acP σ σ' n S) := by
  have hn := hT.1
  unfold kXM
  iterate 5 (refine kX_one rfl ?_)
  refine kX_top (y := nI (7 * s + 1)) (ix7z s) ?_
  iterate 8 (refine kX_one rfl ?_)
  refine kX_acpyN (n0 := 28) (n1 := 6) (f0 := fun _ => 0) (g0 := fun _ => 0) rfl rfl rfl rfl rfl rfl (7 * s + 1) 0 6 rfl rfl rfl (by omega) (by decide) (by decide) (by decide) (by decide) ?_
  generalize hτ : va_up σ 185 (va_cpy (σ 182) (σ 185) (7 * s + 1) 0 6) = τ
  have h1 : tP σ τ n := by
    rw [← hτ]
    refine ⟨fun c hc => up_ne hc, fun k hk => ?_⟩
    rw [up_eq, va_cpy, if_pos ⟨Nat.zero_le _, by omega⟩]
    have := hV s k hs hk
    rw [show 0 + 7 * s + 1 + k = 7 * s + 1 + (k - 0) by omega] at this
    exact this
  iterate 2 (refine kX_one rfl ?_)
  refine kX_getN rfl rfl (kT_ev hr4 hk6) rfl ?_
  iterate 2 (refine kX_one rfl ?_)
  refine kX_cal (mc_matches L xs n 49 (d) 0 τ _ _ rfl (cT_tP h1 hT) (fun z _ z2 => by
    have := nI_inj z2
    subst this
    rw [h1.1 8 (by decide)]
    exact hg) (fun k hk => gV_up (Nat.le_refl _) (fun z _ => by rw [h1.1 8 (by decide)]) (h1.2 k hk))) rfl (Or.inr rfl) rfl rfl rfl (fun r1 ω q1 => ?_)
  obtain ⟨hq, hP⟩ := q1
  have h2 := tP_trans h1 hP
  have hat : ω 182 = σ 182 := h2.1 _ (by decide)
  rcases hq with rfl | rfl
  · repeat refine kX_one rfl ?_
    refine kX_ret (i := .ireturn) (len := 1) rfl (Or.inr rfl) rfl (⟨Or.inl rfl, fun c c1 _ => h2.1 c c1, by rw [hat]; exact hV⟩)
  · iterate 8 (refine kX_one rfl ?_)
    refine kX_acpyN (n0 := 6) (n1 := 28) (f0 := fun _ => 0) (g0 := fun _ => 0) rfl rfl rfl rfl rfl rfl 0 (7 * s + 1) 6 rfl rfl rfl (by decide) (by omega) (by decide) (by decide) (by decide) ?_
    iterate 1 (refine kX_one rfl ?_)
    refine kX_ret (i := .ireturn) (len := 1) rfl (Or.inr rfl) rfl ⟨Or.inr rfl, fun c c1 c2 => ?_, fun s' k' hs' hk' => ?_⟩
    · rw [up_ne c2]
      exact h2.1 c c1
    · rw [up_eq, va_cpy]
      by_cases e : 7 * s + 1 ≤ 0 + 7 * s' + 1 + k' ∧ 0 + 7 * s' + 1 + k' < 7 * s + 1 + 6
      · rw [if_pos e]
        exact h2.2 _ (by omega)
      · rw [if_neg e, hat]
        exact hV s' k' hs' hk'
set_option maxRecDepth 100000 in
set_option maxHeartbeats 4000000 in
theorem mk_receive (L : Nat) (xs : Nat → Int32) (d : Nat) (σ : kS) (n R S C : Nat) (x y : Int32) (h : cJ σ n R S C) : kXM kT L xs (d + 56) 125 [.ref 0, .int x, .int y] σ (fun r σ' => (∃ x, r = some (.int x)) ∧ cAfter σ σ' R) := by
  have hT := h.1
  have hn := hT.1
  have hS := h.2.2.1
  have hS4 := hS.1
  unfold kXM
  iterate 3 (refine kX_one rfl ?_)
  refine kX_cal (mc_hasSession L xs (d + 54) σ S x hS4 hS.2.1) rfl (Or.inr rfl) rfl rfl rfl (fun r1 σ1 q1 => ?_)
  obtain ⟨rfl, rfl⟩ := q1
  repeat refine kX_one rfl ?_
  refine kX_if (fun q => ?_) (fun q => ?_)
  · repeat refine kX_one rfl ?_
    refine kX_ret (i := .ireturn) (len := 1) rfl (Or.inr rfl) rfl (⟨⟨_, rfl⟩, cAfter_same h⟩)
  · obtain ⟨s, hs, rfl⟩ := isB_ne.mp (qeqF q)
    iterate 3 (refine kX_one rfl ?_)
    refine kX_cal (mc_has L xs (d + 54) σ n y hn hT.2.1) rfl (Or.inr rfl) rfl rfl rfl (fun r1 σ1 q1 => ?_)
    obtain ⟨rfl, rfl⟩ := q1
    repeat refine kX_one rfl ?_
    refine kX_if (fun q => ?_) (fun q => ?_)
    · obtain ⟨t, ht, rfl⟩ := isB_ne.mp (qne q)
      repeat refine kX_one rfl ?_
      refine kX_if (fun q2 => ?_) (fun q2 => ?_)
      · have hon : σ 181 8 ≠ 0 := qne q2
        iterate 7 (refine kX_one rfl ?_)
        refine kX_cal (mc_due L xs (d + 53) σ n R S 182 28 0 s (fun _ => 0) h.2.1 hS4 hS.2.2.1 hs rfl (by decide) (by decide)) rfl (Or.inr rfl) rfl rfl rfl (fun r1 σ1 q1 => ?_)
        obtain ⟨hq, rfl⟩ := q1
        rcases hq with rfl | ⟨r, k, hr4, hk6, rfl, hE⟩
        · repeat refine kX_one rfl ?_
          refine kX_ret (i := .ireturn) (len := 1) rfl (Or.inr rfl) rfl (⟨⟨_, rfl⟩, cAfter_same h⟩)
        · iterate 4 (refine kX_one rfl ?_)
          refine kX_getN rfl rfl (kT_ev hr4 hk6) rfl ?_
          repeat refine kX_one rfl ?_
          refine kX_if (fun q3 => ?_) (fun q3 => ?_)
          · repeat refine kX_one rfl ?_
            refine kX_ret (i := .ireturn) (len := 1) rfl (Or.inr rfl) rfl (⟨⟨_, rfl⟩, cAfter_same h⟩)
          · iterate 4 (refine kX_one rfl ?_)
            refine kX_baldN rfl rfl (by decide) (t) (by first | rfl | decide) (by omega) ?_
            repeat refine kX_one rfl ?_
            refine kX_if (fun q4 => ?_) (fun q4 => ?_)
            · repeat refine kX_one rfl ?_
              refine kX_ret (i := .ireturn) (len := 1) rfl (Or.inr rfl) rfl (⟨⟨_, rfl⟩, cAfter_same h⟩)
            · have hgt : σ 8 t = 1 := by
                rcases (hT.2.2.2 t ht).2.2.2.1 with z | z
                · exact absurd z (qeqF q4)
                · exact z
              iterate 2 (refine kX_one rfl ?_)
              refine kX_cal (mc_intruder L xs d σ n R S C h hon) rfl (Or.inr rfl) rfl rfl rfl (fun r1 τ q1 => ?_)
              obtain ⟨rfl, i1, i2, ⟨u, i3⟩, i4, i5⟩ := q1
              iterate 2 (refine kX_one rfl ?_)
              refine kX_cal (mc_canMake L xs 186 200 n u 49 (d + 4) 0 τ (nI t) rfl i3.1 i3.2.1) rfl (Or.inr rfl) rfl rfl rfl (fun r1 ω q1 => ?_)
              obtain ⟨hq, hP⟩ := q1
              have hJ : cJ ω n R S C := cJ_P i2 i3 hP
              have hHi : cHi σ ω := cHi_trans i1 (fun c hc => hP.1 c (by omega))
              have hon2 : ω 181 8 ≠ 0 := by
                rw [hP.1 181 (by decide), i5 _ (by decide)]
                exact hon
              have hg2 : ω 8 t = 1 := by
                rw [hP.1 8 (by decide), i4 8 (by decide) (by decide) (by decide) (by decide)]
                exact hgt
              rcases hq with rfl | rfl
              · repeat refine kX_one rfl ?_
                refine kX_ret (i := .ireturn) (len := 1) rfl (Or.inr rfl) rfl (⟨⟨_, rfl⟩, hHi, n, S, C, hJ⟩)
              · have hRu := hJ.2.2.2.2.2.2.2.2.1
                rcases hRu with hRu | ⟨on1, cnt, hV, hgf⟩
                · exact absurd hRu hon2
                · iterate 6 (refine kX_one rfl ?_)
                  refine kX_cal (mc_accepts L xs (d + 3) ω n S s r k t hJ.1 hS4 hs hr4 hk6 ht hg2 hV) rfl (Or.inr rfl) rfl rfl rfl (fun r1 ρ q1 => ?_)
                  obtain ⟨hq, hA1, hA2⟩ := q1
                  have e : ∀ c, c < 181 ∨ 186 ≤ c → ρ c = ω c := fun c hc => hA1 c (by omega) (by omega)
                  have e181 : ρ 181 = ω 181 := hA1 _ (by decide) (by decide)
                  have hgr : ∀ z, z < n → ρ 8 z = ω 8 z := fun z _ => by rw [e _ (by decide)]
                  have hJ2 : cJ ρ n R S C := by
                    refine cJ_run hJ e (Or.inr ⟨by rw [e181]; exact on1, by rw [e181, hA1 183 (by decide) (by decide)]; exact cnt, cV_eq hgr hA2, ?_⟩)
                    rw [e181, e 186 (by decide)]
                    rcases hgf with z | ⟨g, z1, z2, z3⟩
                    · exact Or.inl z
                    · refine Or.inr ⟨g, z1, z2, fun hg => ?_⟩
                      obtain ⟨u, u1, u2, u3⟩ := z3 hg
                      exact ⟨u, u1, u2, cKg_eq hgr (fun g _ _ => by rw [e 3 (by decide), e 4 (by decide)]; exact ⟨rfl, rfl⟩) u3⟩
                  have hHi2 : cHi σ ρ := cHi_trans hHi (cHi_run e)
                  rcases hq with rfl | rfl
                  · repeat refine kX_one rfl ?_
                    refine kX_ret (i := .ireturn) (len := 1) rfl (Or.inr rfl) rfl (⟨⟨_, rfl⟩, hHi2, n, S, C, hJ2⟩)
                  · iterate 4 (refine kX_one rfl ?_)
                    refine kX_cal (mc_step L xs (d + 54) ρ n R S C s hJ2 (by rw [e181]; exact hon2) hs) rfl (Or.inr rfl) rfl rfl rfl (fun r1 π q1 => ?_)
                    obtain ⟨rfl, s1, s2, s3, s4⟩ := q1
                    iterate 7 (refine kX_one rfl ?_)
                    refine kX_cal (mc_doneBy L xs (d + 54) π 182 28 0 s (fun _ => 0) rfl (by decide) (by omega)) rfl (Or.inr rfl) rfl rfl rfl (fun r1 σ1 q1 => ?_)
                    obtain ⟨rfl, rfl⟩ := q1
                    refine kX_ret (i := .ireturn) (len := 1) rfl (Or.inr rfl) rfl (⟨⟨_, rfl⟩, cHi_trans hHi2 s1, n, S, C, s2⟩)
      · repeat refine kX_one rfl ?_
        refine kX_ret (i := .ireturn) (len := 1) rfl (Or.inr rfl) rfl (⟨⟨_, rfl⟩, cAfter_same h⟩)
    · repeat refine kX_one rfl ?_
      refine kX_ret (i := .ireturn) (len := 1) rfl (Or.inr rfl) rfl (⟨⟨_, rfl⟩, cAfter_same h⟩)
end
section
/-! the class: row -/
def pv : Nat → Int32
  | 0 => -1
  | i + 1 => nI i
theorem pv_sub (q : Nat) : nI q - Int32.ofInt 1 = pv q := by
  cases q with
  | zero => rfl
  | succ i => exact nI_pred i
theorem pv_dec (i : Nat) : pv i = nI i + -1 := by
  rw [← pv_sub, Int32.sub_eq_add_neg]
  rfl
def wnP (σ τ : kS) : Prop := ∀ c, c ≠ 194 → τ c = σ c
set_option maxRecDepth 100000 in
set_option maxHeartbeats 4000000 in
theorem mc_want (L : Nat) (xs : Nat → Int32) (d : Nat) (σ : kS) (n u : Nat) (x : Int32) (h : nB σ 186 200 n u) : kXM kT L xs (d + 2) 57 [.ref 186, .int x] σ (fun r σ' => r = none ∧ wnP σ σ') := by
  unfold kXM
  iterate 2 (refine kX_one rfl ?_)
  refine kX_cal (mc_unn L xs d σ 186 200 n u x h) rfl (Or.inr rfl) rfl rfl rfl (fun r1 σ1 q1 => ?_)
  obtain ⟨rfl, rfl⟩ := q1
  repeat refine kX_one rfl ?_
  refine kX_if (fun q => ?_) (fun q => ?_)
  · refine kX_ret (i := .return_) (len := 1) rfl (Or.inr rfl) rfl (⟨rfl, fun _ _ => rfl⟩)
  · obtain ⟨g, g1, g2, rfl⟩ := isB_ne.mp (qeqF q)
    obtain ⟨i, rfl⟩ : ∃ i, g = 200 + i := ⟨g - 200, by omega⟩
    have hu := h.2.2.1
    iterate 5 (refine kX_one rfl ?_)
    refine kX_top (h.2.2.2.2.1) ?_
    iterate 1 (refine kX_one rfl ?_)
    refine kX_top (y := nI i) ?_ ?_
    · show nI (200 + i) - nI 200 = nI i
      rw [← nI_add, Int32.add_comm, Int32.add_sub_cancel]
    iterate 1 (refine kX_one rfl ?_)
    refine kX_iastN rfl rfl (by decide) (i) (by first | rfl | decide) (by omega) ?_
    refine kX_ret (i := .return_) (len := 1) rfl (Or.inr rfl) rfl (⟨rfl, fun c hc => up_ne hc⟩)
set_option maxRecDepth 100000 in
set_option maxHeartbeats 4000000 in
theorem mc_missingFor (L : Nat) (xs : Nat → Int32) (d : Nat) (σ : kS) (n u : Nat) (x : Int32) (h : nB σ 186 200 n u) : kXM kT L xs (d + 3) 56 [.ref 186, .int x] σ (fun r σ' => (∃ z, r = some (.int z)) ∧ wnP σ σ') := by
  have hu := h.2.2.1
  have hW : ∀ τ, wnP σ τ → nB τ 186 200 n u := fun τ ht => ⟨h.1, h.2.1, h.2.2.1, by rw [ht 1 (by decide)]; exact h.2.2.2.1, by rw [ht 186 (by decide)]; exact h.2.2.2.2.1, by rw [ht 186 (by decide)]; exact h.2.2.2.2.2⟩
  have loop : ∀ q : Nat × Int32 × kS, (q.1 ≤ u ∧ wnP σ q.2.2) → kX kT L xs (d + 3) 56 22 [(3, .int (pv q.1)), (2, .int q.2.1), (0, .ref 186), (1, .int x)] [] q.2.2 (fun r σ' => (∃ z, r = some (.int z)) ∧ wnP σ σ') := by
    refine kX_while (fun q : Nat × Int32 × kS => [(3, .int (pv q.1)), (2, .int q.2.1), (0, .ref 186), (1, .int x)]) (fun q => q.2.2) _ (fun q => q.1) ?_
    rintro ⟨q, m, τ⟩ ⟨i1, i2⟩ ih
    dsimp only at i1 i2 ih ⊢
    cases q with
    | zero =>
      show kX kT L xs (d + 3) 56 22 [(3, .int (-1)), (2, .int m), (0, .ref 186), (1, .int x)] [] τ _
      repeat refine kX_one rfl ?_
      refine kX_ret (i := .ireturn) (len := 1) rfl (Or.inr rfl) rfl (⟨⟨_, rfl⟩, i2⟩)
    | succ i =>
      show kX kT L xs (d + 3) 56 22 [(3, .int (nI i)), (2, .int m), (0, .ref 186), (1, .int x)] [] τ _
      have k75 : ∀ m' τ', wnP σ τ' → kX kT L xs (d + 3) 56 75 [(2, .int m'), (3, .int (nI i)), (0, .ref 186), (1, .int x)] [] τ' (fun r σ' => (∃ z, r = some (.int z)) ∧ wnP σ σ') := by
        intro m' τ' ht
        iterate 2 (refine kX_one rfl ?_)
        have := ih (i, m', τ') ⟨by omega, ht⟩ (by simp only; omega)
        dsimp only at this
        rw [pv_dec] at this
        exact kX_lv _ rfl rfl rfl this
      repeat refine kX_one rfl ?_
      refine kX_ifF (decide_eq_false (nI_pos (by omega))) ?_
      iterate 3 (refine kX_one rfl ?_)
      refine kX_ialdN rfl rfl (by decide) (i) (by first | rfl | decide) (by omega) ?_
      repeat refine kX_one rfl ?_
      refine kX_if (fun q => ?_) (fun q => ?_)
      · exact kX_lv _ rfl rfl rfl (k75 m τ i2)
      · have hst := (hW τ i2).2.2.2.2.1
        iterate 7 (refine kX_one rfl ?_)
        refine kX_top (hst) ?_
        iterate 2 (refine kX_one rfl ?_)
        refine kX_top (y := nI (200 + i)) (nI_add 200 i) ?_
        refine kX_ialdN rfl rfl (by decide) (200 + i) (by first | rfl | decide) (by omega) ?_
        refine kX_cal (mc_want L xs d τ n u _ (hW τ i2)) rfl (Or.inr rfl) rfl rfl rfl (fun r1 τ1 q1 => ?_)
        obtain ⟨rfl, w1⟩ := q1
        have i3 : wnP σ τ1 := fun c hc => (w1 c hc).trans (i2 c hc)
        have hst := (hW τ1 i3).2.2.2.2.1
        iterate 6 (refine kX_one rfl ?_)
        refine kX_top (hst) ?_
        iterate 2 (refine kX_one rfl ?_)
        refine kX_top (y := nI (200 + i)) (nI_add 200 i) ?_
        refine kX_ialdN rfl rfl (by decide) (200 + i) (by first | rfl | decide) (by omega) ?_
        refine kX_cal (mc_want L xs d τ1 n u _ (hW τ1 i3)) rfl (Or.inr rfl) rfl rfl rfl (fun r1 τ2 q1 => ?_)
        obtain ⟨rfl, w2⟩ := q1
        exact kX_lv _ rfl rfl rfl (k75 _ τ2 (fun c hc => (w2 c hc).trans (i3 c hc)))
  unfold kXM
  iterate 3 (refine kX_one rfl ?_)
  refine kX_cal (kX_fill (T := kT) L xs (d + 1) 0 σ (a := 194) (n := 576) (g0 := fun _ => 0) rfl (by decide)) rfl (Or.inr rfl) rfl rfl rfl (fun r1 σ1 q1 => ?_)
  obtain ⟨rfl, rfl⟩ := q1
  generalize hτ : va_up σ 194 (fun j => if j < 576 then 0 else σ 194 j) = τ
  have i2 : wnP σ τ := fun c hc => by
    rw [← hτ]
    exact up_ne hc
  iterate 2 (refine kX_one rfl ?_)
  refine kX_cal (mc_want L xs d τ n u _ (hW τ i2)) rfl (Or.inr rfl) rfl rfl rfl (fun r1 τ1 q1 => ?_)
  obtain ⟨rfl, w1⟩ := q1
  have i3 : wnP σ τ1 := fun c hc => (w1 c hc).trans (i2 c hc)
  iterate 4 (refine kX_one rfl ?_)
  refine kX_top ((hW τ1 i3).2.2.2.2.2) ?_
  iterate 2 (refine kX_one rfl ?_)
  refine kX_top (y := pv u) (pv_sub u) ?_
  iterate 1 (refine kX_one rfl ?_)
  exact kX_lv _ rfl rfl rfl (loop (u, 0, τ1) ⟨Nat.le_refl _, i3⟩)
theorem cKc_up {σ τ : kS} {n m : Nat} {c : Int32} (hm : n ≤ m) (e : ∀ z, z < n → τ 8 z = σ 8 z) (h : cKc σ n c) : cKc τ m c := by
  rcases h with q | ⟨z, z1, z2, z3⟩ | q
  · exact Or.inl q
  · exact Or.inr (Or.inl ⟨z, by omega, z2, by rw [e z z1]; exact z3⟩)
  · exact Or.inr (Or.inr q)
theorem cKc_GC {σ : kS} {n : Nat} {c : Int32} (hn : n ≤ 200) (h : cKc σ n c) : cG σ n c ∧ cCh n c := by
  refine ⟨fun z z1 z2 => ?_, ?_⟩
  · rcases h with q | ⟨w, w1, w2, w3⟩ | ⟨w, w1, w2, w3⟩
    · exact absurd (z2.symm.trans q) (nI_m1 (by omega))
    · obtain rfl : z = w := nI_inj (z2.symm.trans w2)
      exact w3
    · have := nI_inj (z2.symm.trans w3)
      omega
  · rcases h with q | ⟨w, w1, w2, w3⟩ | ⟨w, w1, w2, w3⟩
    · exact Or.inl q
    · exact Or.inr ⟨w, by omega, w2, Or.inl w1⟩
    · exact Or.inr ⟨w, by omega, w3, Or.inr w1⟩
/-- what is kept while numbers are given -/
def gN (σ : kS) (n u : Nat) : Prop := nB σ 186 200 n u ∧ cKe σ 186 200 u ∧ cKg σ n 200 u ∧ cT σ n
theorem gN_gr {σ τ : kS} {n m u : Nat} (h : gN σ n u) (hG : cGr σ τ n) (hm : n ≤ m) (hT : cT τ m) : gN τ m u := by
  obtain ⟨h1, h2, h3, h4⟩ := h
  have e : ∀ c, 13 ≤ c → τ c = σ c := fun c hc => hG.1 c (fun q => by have := tC_lt q; omega)
  refine ⟨⟨h1.1, hT.1, h1.2.2.1, hT.2.1, by rw [e 186 (by decide)]; exact h1.2.2.2.2.1, by rw [e 186 (by decide)]; exact h1.2.2.2.2.2⟩, cKe_eq (by decide) (e _ (by decide)) hG.2.2 h2, fun g g1 g2 => ?_, hT⟩
  rw [(hG.2.2 g g1).2.1, (hG.2.2 g g1).2.2.1]
  exact ⟨cKc_up hm hG.2.1 (h3 g g1 g2).1, cKc_up hm hG.2.1 (h3 g g1 g2).2⟩
set_option maxRecDepth 100000 in
set_option maxHeartbeats 4000000 in
theorem mc_giveNumber (L : Nat) (xs : Nat → Int32) (u : Nat) : ∀ (m d dd : Nat) (σ : kS) (n : Nat) (x : Int32), dd + m = 49 → gN σ n u → kXM kT L xs (d + m + 5) 58 [.ref 186, .int x, .int (nI dd)] σ (fun r τ => ∃ y n', r = some (.int y) ∧ n ≤ n' ∧ cGr σ τ n ∧ cT τ n' ∧ (cKc σ n x → cKc τ n' y)) := by
  intro m
  induction m with
  | zero =>
    intro d dd σ n x hdd h
    obtain rfl : dd = 49 := by omega
    unfold kXM
    iterate 2 (refine kX_one rfl ?_)
    refine kX_cal (mc_unn L xs (d + 3) σ 186 200 n u x h.1) rfl (Or.inr rfl) rfl rfl rfl (fun r1 σ1 q1 => ?_)
    obtain ⟨rfl, rfl⟩ := q1
    repeat refine kX_one rfl ?_
    refine kX_if (fun q => ?_) (fun q => ?_)
    · repeat refine kX_one rfl ?_
      refine kX_ret (i := .ireturn) (len := 1) rfl (Or.inr rfl) rfl (⟨x, n, rfl, Nat.le_refl _, cGr_refl σ n, h.2.2.2, id⟩)
    · repeat refine kX_one rfl ?_
      refine kX_ret (i := .ireturn) (len := 1) rfl (Or.inr rfl) rfl (⟨x, n, rfl, Nat.le_refl _, cGr_refl σ n, h.2.2.2, id⟩)
  | succ m IH =>
    intro d dd σ n x hdd h
    have hu := h.1.2.2.1
    unfold kXM
    iterate 2 (refine kX_one rfl ?_)
    refine kX_cal (mc_unn L xs (d + m + 4) σ 186 200 n u x h.1) rfl (Or.inr rfl) rfl rfl rfl (fun r1 σ1 q1 => ?_)
    obtain ⟨rfl, rfl⟩ := q1
    repeat refine kX_one rfl ?_
    refine kX_if (fun q => ?_) (fun q => ?_)
    · repeat refine kX_one rfl ?_
      refine kX_ret (i := .ireturn) (len := 1) rfl (Or.inr rfl) rfl (⟨x, n, rfl, Nat.le_refl _, cGr_refl σ n, h.2.2.2, id⟩)
    · obtain ⟨g, g1, g2, rfl⟩ := isB_ne.mp (qeqF q)
      repeat refine kX_one rfl ?_
      refine kX_if (fun q2 => ?_) (fun q2 => ?_)
      · iterate 5 (refine kX_one rfl ?_)
        refine kX_ialdN rfl rfl (by decide) (g) (by first | rfl | decide) (by omega) ?_
        iterate 3 (refine kX_one rfl ?_)
        refine kX_top (y := nI (dd + 1)) (nI_1 dd) ?_
        refine kX_cal (IH d (dd + 1) σ n _ (by omega) h) rfl (Or.inr rfl) rfl rfl rfl (fun r1 τ1 q1 => ?_)
        obtain ⟨y1, n1, rfl, hn1, G1, T1, c1⟩ := q1
        have c1 := c1 (h.2.2.1 g g1 g2).1
        have h1 := gN_gr h G1 hn1 T1
        iterate 6 (refine kX_one rfl ?_)
        refine kX_ialdN rfl rfl (by decide) (g) (by first | rfl | decide) (by omega) ?_
        iterate 3 (refine kX_one rfl ?_)
        refine kX_top (y := nI (dd + 1)) (nI_1 dd) ?_
        refine kX_cal (IH d (dd + 1) τ1 n1 _ (by omega) h1) rfl (Or.inr rfl) rfl rfl rfl (fun r1 τ2 q1 => ?_)
        obtain ⟨y2, n2, rfl, hn2, G2, T2, c2⟩ := q1
        have c2 := c2 (h1.2.2.1 g g1 g2).2
        have h2 := gN_gr h1 G2 hn2 T2
        have c1 : cKc τ2 n2 y1 := cKc_up hn2 G2.2.1 c1
        obtain ⟨k, k4, k9, hk⟩ := (h2.2.1.2 g g1 g2).2
        have G12 : cGr σ τ2 n := cGr_trans G1 G2 hn1
        have hn20 := T2.1
        obtain ⟨a1, b1⟩ := cKc_GC hn20 c1
        obtain ⟨a2, b2⟩ := cKc_GC hn20 c2
        iterate 7 (refine kX_one rfl ?_)
        refine kX_ialdV rfl rfl (by decide) (g) (by first | rfl | decide) (by omega) (hk) ?_
        iterate 2 (refine kX_one rfl ?_)
        refine kX_cal (mc_find L xs (d + m + 3) τ2 n2 (nI k) y1 y2 T2) rfl (Or.inr rfl) rfl rfl rfl (fun r1 σ1 q1 => ?_)
        obtain ⟨hq, rfl⟩ := q1
        rcases hq with rfl | ⟨t, ⟨t1, -⟩, rfl, t2, t3, t4⟩
        · iterate 10 (refine kX_one rfl ?_)
          refine kX_ialdV rfl rfl (by decide) (g) (by first | rfl | decide) (by omega) (hk) ?_
          iterate 2 (refine kX_one rfl ?_)
          refine kX_cal (mc_newCompound L xs (d + m + 1) τ2 n2 k y1 y2 T2 k4 k9 b1 b2 (fun z => absurd ⟨a1, a2⟩ z)) rfl (Or.inr rfl) rfl rfl rfl (fun r1 ω q1 => ?_)
          rcases q1 with ⟨-, rfl, rfl⟩ | ⟨hlt, rfl, e1, e2, e3⟩
          · refine kX_ret (i := .ireturn) (len := 1) rfl (Or.inr rfl) rfl (⟨_, n2, rfl, by omega, G12, T2, fun _ => Or.inl rfl⟩)
          · refine kX_ret (i := .ireturn) (len := 1) rfl (Or.inr rfl) rfl (⟨_, n2 + 1, rfl, by omega, cGr_trans G12 e2 (by omega), e1, fun _ => Or.inr (Or.inl ⟨n2, by omega, rfl, e3 ⟨a1, a2⟩⟩)⟩)
        · iterate 3 (refine kX_one rfl ?_)
          repeat refine kX_one rfl ?_
          refine kX_if (fun q3 => ?_) (fun q3 => ?_)
          · exact absurd (qeq q3) (nI_m1 (by omega))
          · have hgt : τ2 8 t = 1 := by
              refine ((T2.2.2.2 t t1).2.2.2.2.2.1 (by rw [t2]; exact nI_ne (by omega))).mpr ?_
              rw [t3, t4]
              exact ⟨fun z z1 z2 => a1 z (by omega) z2, fun z z1 z2 => a2 z (by omega) z2⟩
            repeat refine kX_one rfl ?_
            refine kX_ret (i := .ireturn) (len := 1) rfl (Or.inr rfl) rfl (⟨_, n2, rfl, by omega, G12, T2, fun _ => Or.inr (Or.inl ⟨t, t1, rfl, hgt⟩)⟩)
      · repeat refine kX_one rfl ?_
        refine kX_ret (i := .ireturn) (len := 1) rfl (Or.inr rfl) rfl (⟨_, n, rfl, Nat.le_refl _, cGr_refl σ n, h.2.2.2, id⟩)
set_option maxRecDepth 100000 in
set_option maxHeartbeats 4000000 in
theorem mc_numbered (L : Nat) (xs : Nat → Int32) (d : Nat) (σ : kS) (n R S C u g : Nat) (h : cJ σ n R S C) (hW : nW σ 186 200 n u) (hg : g < 1928) : kXM kT L xs (d + 55) 143 [.ref 0, .ref 186, .int (nI g)] σ (fun r σ' => (∃ x, r = some (.int x)) ∧ cAfter σ σ' R) := by
  unfold kXM
  iterate 5 (refine kX_one rfl ?_)
  refine kX_cal (mc_missingFor L xs (d + 51) σ n u _ hW.1) rfl (Or.inr rfl) rfl rfl rfl (fun r1 τ q1 => ?_)
  obtain ⟨⟨z, rfl⟩, w1⟩ := q1
  have hP : nP σ τ 186 := ⟨fun c hc => w1 c (by omega), w1 _ (by decide), fun j _ _ => by rw [w1 186 (by decide)], by
    unfold nR
    rw [w1 186 (by decide), w1 (186 + 2) (by decide)]
    exact hW.2.1⟩
  have hJ := cJ_P h hW hP
  have hW2 := nW_P hW hP
  have hHi : cHi σ τ := fun c hc => w1 c (by omega)
  repeat refine kX_one rfl ?_
  refine kX_if (fun q => ?_) (fun q => ?_)
  · iterate 4 (refine kX_one rfl ?_)
    refine kX_ialdN rfl rfl (by decide) (g) (by first | rfl | decide) (by omega) ?_
    repeat refine kX_one rfl ?_
    refine kX_if (fun q2 => ?_) (fun q2 => ?_)
    · iterate 3 (refine kX_one rfl ?_)
      refine kX_cal (mc_giveNumber L xs u 49 d 0 τ n _ rfl ⟨hW2.1, hW2.2.2.1, hW2.2.2.2.1, hW2.2.2.2.2⟩) rfl (Or.inr rfl) rfl rfl rfl (fun r1 ω q1 => ?_)
      obtain ⟨y, n', rfl, n1, G, T, -⟩ := q1
      refine kX_ret (i := .ireturn) (len := 1) rfl (Or.inr rfl) rfl (⟨⟨_, rfl⟩, cHi_trans hHi (cGr_hi G), n', S, C, cJ_gr hJ G n1 T⟩)
    · repeat refine kX_one rfl ?_
      refine kX_ret (i := .ireturn) (len := 1) rfl (Or.inr rfl) rfl (⟨⟨_, rfl⟩, hHi, n, S, C, hJ⟩)
  · repeat refine kX_one rfl ?_
    refine kX_ret (i := .ireturn) (len := 1) rfl (Or.inr rfl) rfl (⟨⟨_, rfl⟩, hHi, n, S, C, hJ⟩)
set_option maxRecDepth 100000 in
set_option maxHeartbeats 4000000 in
theorem mk_row (L : Nat) (xs : Nat → Int32) (d : Nat) (σ : kS) (n R S C : Nat) (x y : Int32) (h : cJ σ n R S C) : kXM kT L xs (d + 56) 127 [.ref 0, .int x, .int y] σ (fun r σ' => (∃ x, r = some (.int x)) ∧ cAfter σ σ' R) := by
  unfold kXM
  repeat refine kX_one rfl ?_
  refine kX_if (fun q => ?_) (fun q => ?_)
  · repeat refine kX_one rfl ?_
    refine kX_ret (i := .ireturn) (len := 1) rfl (Or.inr rfl) rfl (⟨⟨_, rfl⟩, cAfter_same h⟩)
  · have q : ¬ y < 0 := of_decide_eq_false q
    obtain ⟨j, hj, rfl⟩ := nI_of q
    repeat refine kX_one rfl ?_
    refine kX_if (fun q2 => ?_) (fun q2 => ?_)
    · have q2 := qle q2 j 4
      repeat refine kX_one rfl ?_
      refine kX_if (fun q3 => ?_) (fun q3 => ?_)
      · have hon : σ 181 8 ≠ 0 := qne q3
        iterate 2 (refine kX_one rfl ?_)
        refine kX_cal (mc_intruder L xs d σ n R S C h hon) rfl (Or.inr rfl) rfl rfl rfl (fun r1 τ q1 => ?_)
        obtain ⟨rfl, i1, i2, ⟨u, i3⟩, -⟩ := q1
        have hA : cAfter σ τ R := ⟨i1, n, S, C, i2⟩
        obtain ⟨ln, l1, l2, l3⟩ := i3.2.1
        iterate 1 (refine kX_one rfl ?_)
        repeat refine kX_one rfl ?_
        refine kX_if (fun q4 => ?_) (fun q4 => ?_)
        · repeat refine kX_one rfl ?_
          refine kX_ret (i := .ireturn) (len := 1) rfl (Or.inr rfl) rfl (⟨⟨_, rfl⟩, hA⟩)
        · have q4 : ¬ x < 0 := of_decide_eq_false q4
          obtain ⟨i, hi, rfl⟩ := nI_of q4
          iterate 3 (refine kX_one rfl ?_)
          refine kX_top (l2) ?_
          repeat refine kX_one rfl ?_
          refine kX_if (fun q5 => ?_) (fun q5 => ?_)
          · have q5 := qlt q5 i ln
            obtain ⟨g, g1, g2⟩ := l3 i q5
            iterate 3 (refine kX_one rfl ?_)
            refine kX_ialdV rfl rfl (by decide) (i) (by first | rfl | decide) (by omega) (g2) ?_
            have : j = 0 ∨ j = 1 ∨ j = 2 ∨ j = 3 ∨ j = 4 := by omega
            rcases this with rfl | rfl | rfl | rfl | rfl
            · iterate 7 (refine kX_one rfl ?_)
              refine kX_ialdN rfl rfl (by decide) (g) (by first | rfl | decide) (by omega) ?_
              refine kX_ret (i := .ireturn) (len := 1) rfl (Or.inr rfl) rfl (⟨⟨_, rfl⟩, hA⟩)
            · iterate 7 (refine kX_one rfl ?_)
              refine kX_ialdN rfl rfl (by decide) (g) (by first | rfl | decide) (by omega) ?_
              refine kX_ret (i := .ireturn) (len := 1) rfl (Or.inr rfl) rfl (⟨⟨_, rfl⟩, hA⟩)
            · iterate 6 (refine kX_one rfl ?_)
              refine kX_ialdN rfl rfl (by decide) (i) (by first | rfl | decide) (by omega) ?_
              refine kX_ret (i := .ireturn) (len := 1) rfl (Or.inr rfl) rfl (⟨⟨_, rfl⟩, hA⟩)
            · iterate 6 (refine kX_one rfl ?_)
              refine kX_ialdN rfl rfl (by decide) (i) (by first | rfl | decide) (by omega) ?_
              refine kX_cal (mc_orNone L xs (d + 54) τ _) rfl (Or.inr rfl) rfl rfl rfl (fun r1 σ1 q1 => ?_)
              obtain ⟨rfl, rfl⟩ := q1
              refine kX_ret (i := .ireturn) (len := 1) rfl (Or.inr rfl) rfl (⟨⟨_, rfl⟩, hA⟩)
            · iterate 6 (refine kX_one rfl ?_)
              refine kX_cal (mc_numbered L xs d τ n R S C u g i2 i3 g1) rfl (Or.inr rfl) rfl rfl rfl (fun r1 ω q1 => ?_)
              obtain ⟨⟨z, rfl⟩, hB1, hB2⟩ := q1
              refine kX_ret (i := .ireturn) (len := 1) rfl (Or.inr rfl) rfl (⟨⟨_, rfl⟩, cHi_trans i1 hB1, hB2⟩)
          · repeat refine kX_one rfl ?_
            refine kX_ret (i := .ireturn) (len := 1) rfl (Or.inr rfl) rfl (⟨⟨_, rfl⟩, hA⟩)
      · repeat refine kX_one rfl ?_
        refine kX_ret (i := .ireturn) (len := 1) rfl (Or.inr rfl) rfl (⟨⟨_, rfl⟩, cAfter_same h⟩)
    · repeat refine kX_one rfl ?_
      refine kX_ret (i := .ireturn) (len := 1) rfl (Or.inr rfl) rfl (⟨⟨_, rfl⟩, cAfter_same h⟩)
end
section
/-! the class: the STATES of the search -/
set_option maxRecDepth 100000 in
set_option maxHeartbeats 4000000 in
theorem mc_stSlot (L : Nat) (xs : Nat → Int32) (d : Nat) (σ : kS) (w : Int32) : kXM kT L xs (d + 1) 88 [.ref 202, .int w] σ (fun r σ' => (∃ k, k < 1024 ∧ r = some (.int (nI k))) ∧ σ = σ') := by
  have loop : ∀ q : Nat × Int32, q.1 ≤ 28 → kX kT L xs (d + 1) 88 5 [(3, .int (nI q.1)), (2, .int q.2), (0, .ref 202), (1, .int w)] [] σ (fun r σ' => (∃ k, k < 1024 ∧ r = some (.int (nI k))) ∧ σ = σ') := by
    refine kX_while (fun q : Nat × Int32 => [(3, .int (nI q.1)), (2, .int q.2), (0, .ref 202), (1, .int w)]) (fun _ => σ) _ (fun q => 28 - q.1) ?_
    rintro ⟨i, m⟩ i1 ih
    dsimp only at i1 ih ⊢
    have k31 : kX kT L xs (d + 1) 88 31 [(3, .int (nI i)), (2, .int m), (0, .ref 202), (1, .int w)] [] σ (fun r σ' => (∃ k, k < 1024 ∧ r = some (.int (nI k))) ∧ σ = σ') := by
      repeat refine kX_one rfl ?_
      refine kX_ret (i := .ireturn) (len := 1) rfl (Or.inr rfl) rfl ⟨?_, rfl⟩
      exact (pk_andE _ (m := (Int16.ofInt 1023).toInt32) 10 (by decide)).imp (fun k hk => ⟨hk.1, congrArg (fun z => some (Value.int z)) hk.2⟩)
    repeat refine kX_one rfl ?_
    refine kX_if (fun q => ?_) (fun q => ?_)
    · exact k31
    · repeat refine kX_one rfl ?_
      refine kX_if (fun q2 => ?_) (fun q2 => ?_)
      · exact k31
      · have q2 := qgeF q2 i 28
        iterate 5 (refine kX_one rfl ?_)
        refine kX_ialdN rfl rfl (by decide) (i) (by first | rfl | decide) (q2) ?_
        iterate 4 (refine kX_one rfl ?_)
        have := fun m' => ih (i + 1, m') q2 (by simp only; omega)
        dsimp only at this
        rw [← nI_1] at this
        exact kX_lv _ rfl rfl rfl (this _)
  unfold kXM
  iterate 4 (refine kX_one rfl ?_)
  exact kX_lv _ rfl rfl rfl (loop (0, 17) (Nat.zero_le _))
set_option maxRecDepth 100000 in
set_option maxHeartbeats 4000000 in
theorem mc_isSame (L : Nat) (xs : Nat → Int32) (d : Nat) (σ : kS) (w : Int32) (base : Nat) (hb : base + 28 ≤ 16800) : kXM kT L xs (d + 1) 90 [.ref 196, .ref 202, .int w, .int (nI base)] σ (fun r σ' => (r = some (.int 0) ∨ r = some (.int 1)) ∧ σ = σ') := by
  have loop : ∀ q : Nat, q ≤ 28 → kX kT L xs (d + 1) 90 3 [(4, .int (nI q)), (0, .ref 196), (1, .ref 202), (2, .int w), (3, .int (nI base))] [] σ (fun r σ' => (r = some (.int 0) ∨ r = some (.int 1)) ∧ σ = σ') := by
    refine kX_while (fun q => [(4, .int (nI q)), (0, .ref 196), (1, .ref 202), (2, .int w), (3, .int (nI base))]) (fun _ => σ) _ (fun q => 28 - q) ?_
    intro i i1 ih
    repeat refine kX_one rfl ?_
    refine kX_if (fun q => ?_) (fun q => ?_)
    · repeat refine kX_one rfl ?_
      refine kX_ret (i := .ireturn) (len := 1) rfl (Or.inr rfl) rfl (⟨Or.inr rfl, rfl⟩)
    · repeat refine kX_one rfl ?_
      refine kX_if (fun q2 => ?_) (fun q2 => ?_)
      · repeat refine kX_one rfl ?_
        refine kX_ret (i := .ireturn) (len := 1) rfl (Or.inr rfl) rfl (⟨Or.inr rfl, rfl⟩)
      · have q2 := qgeF q2 i 28
        iterate 2 (refine kX_one rfl ?_)
        refine kX_ialdN rfl rfl (by decide) (i) (by first | rfl | decide) (q2) ?_
        iterate 5 (refine kX_one rfl ?_)
        refine kX_top (y := nI (base + i)) (nI_add base i) ?_
        refine kX_ialdN rfl rfl (by decide) (base + i) (by first | rfl | decide) (by omega) ?_
        repeat refine kX_one rfl ?_
        refine kX_if (fun q3 => ?_) (fun q3 => ?_)
        · iterate 2 (refine kX_one rfl ?_)
          have := ih (i + 1) q2 (by omega)
          rw [← nI_1] at this
          exact kX_lv _ rfl rfl rfl this
        · repeat refine kX_one rfl ?_
          refine kX_ret (i := .ireturn) (len := 1) rfl (Or.inr rfl) rfl (⟨Or.inl rfl, rfl⟩)
  unfold kXM
  iterate 2 (refine kX_one rfl ?_)
  exact kX_lv _ rfl rfl rfl (loop 0 (Nat.zero_le _))
set_option maxRecDepth 100000 in
set_option maxHeartbeats 4000000 in
theorem mc_stHas (L : Nat) (xs : Nat → Int32) (d : Nat) (σ : kS) (w : Int32) (N : Nat) (hN : N ≤ 600) (hc : σ 196 5 = nI N) : kXM kT L xs (d + 2) 89 [.ref 196, .ref 202, .int w] σ (fun r σ' => (r = some (.int 0) ∨ r = some (.int 1)) ∧ σ = σ') := by
  have loop : ∀ q : Nat × Int32, q.1 ≤ 600 → kX kT L xs (d + 2) 89 14 [(4, .int (nI q.1)), (3, .int q.2), (0, .ref 196), (1, .ref 202), (2, .int w)] [] σ (fun r σ' => (r = some (.int 0) ∨ r = some (.int 1)) ∧ σ = σ') := by
    refine kX_while (fun q : Nat × Int32 => [(4, .int (nI q.1)), (3, .int q.2), (0, .ref 196), (1, .ref 202), (2, .int w)]) (fun _ => σ) _ (fun q => 600 - q.1) ?_
    rintro ⟨i, x⟩ i1 ih
    dsimp only at i1 ih ⊢
    repeat refine kX_one rfl ?_
    refine kX_if (fun q => ?_) (fun q => ?_)
    · repeat refine kX_one rfl ?_
      refine kX_ret (i := .ireturn) (len := 1) rfl (Or.inr rfl) rfl (⟨Or.inl rfl, rfl⟩)
    · have q := qgeF q i 600
      repeat refine kX_one rfl ?_
      refine kX_if (fun q2 => ?_) (fun q2 => ?_)
      · repeat refine kX_one rfl ?_
        refine kX_ret (i := .ireturn) (len := 1) rfl (Or.inr rfl) rfl (⟨Or.inl rfl, rfl⟩)
      · have q2 : ¬ x < 0 := of_decide_eq_false q2
        obtain ⟨s, hs, rfl⟩ := nI_of q2
        iterate 3 (refine kX_one rfl ?_)
        refine kX_top (hc) ?_
        repeat refine kX_one rfl ?_
        refine kX_if (fun q3 => ?_) (fun q3 => ?_)
        · repeat refine kX_one rfl ?_
          refine kX_ret (i := .ireturn) (len := 1) rfl (Or.inr rfl) rfl (⟨Or.inl rfl, rfl⟩)
        · have q3 := qgeF q3 s N
          iterate 6 (refine kX_one rfl ?_)
          refine kX_top (y := nI (s * 28)) (pk_mul s 28) ?_
          refine kX_cal (mc_isSame L xs d σ w (s * 28) (by omega)) rfl (Or.inr rfl) rfl rfl rfl (fun r1 σ1 q1 => ?_)
          obtain ⟨hq, rfl⟩ := q1
          rcases hq with rfl | rfl
          · iterate 4 (refine kX_one rfl ?_)
            refine kX_ialdN rfl rfl (by decide) (s) (by first | rfl | decide) (by omega) ?_
            iterate 3 (refine kX_one rfl ?_)
            have := fun m' => ih (i + 1, m') q (by simp only; omega)
            dsimp only at this
            rw [← nI_1] at this
            exact kX_lv _ rfl rfl rfl (this _)
          · repeat refine kX_one rfl ?_
            refine kX_ret (i := .ireturn) (len := 1) rfl (Or.inr rfl) rfl (⟨Or.inr rfl, rfl⟩)
  unfold kXM
  iterate 4 (refine kX_one rfl ?_)
  refine kX_cal (mc_stSlot L xs d σ w) rfl (Or.inr rfl) rfl rfl rfl (fun r1 σ1 q1 => ?_)
  obtain ⟨⟨k, k1, rfl⟩, rfl⟩ := q1
  refine kX_ialdN rfl rfl (by decide) (k) (by first | rfl | decide) (k1) ?_
  iterate 3 (refine kX_one rfl ?_)
  exact kX_lv _ rfl rfl rfl (loop (0, _) (Nat.zero_le _))
def stA (σ τ : kS) (N : Nat) (f s : Int32) : Prop := (∀ c, c < 196 ∨ 202 ≤ c → τ c = σ c) ∧ τ 197 = va_cpy (σ 202) (σ 197) 0 (28 * N) 28 ∧ τ 198 = upd (σ 198) N f ∧ τ 199 = upd (σ 199) N s ∧ τ 196 5 = nI (N + 1)
set_option maxRecDepth 100000 in
set_option maxHeartbeats 4000000 in
theorem mc_stAdd (L : Nat) (xs : Nat → Int32) (d : Nat) (σ : kS) (w f s : Int32) (N : Nat) (hN : N < 600) (hc : σ 196 5 = nI N) : kXM kT L xs (d + 2) 91 [.ref 196, .ref 202, .int w, .int f, .int s] σ (fun r σ' => r = none ∧ stA σ σ' N f s) := by
  unfold kXM
  iterate 2 (refine kX_one rfl ?_)
  refine kX_top (hc) ?_
  repeat refine kX_one rfl ?_
  refine kX_if (fun q => ?_) (fun q => ?_)
  · have q := qge q N 600
    omega
  · iterate 2 (refine kX_one rfl ?_)
    refine kX_cal (mc_stSlot L xs d σ w) rfl (Or.inr rfl) rfl rfl rfl (fun r1 σ1 q1 => ?_)
    obtain ⟨⟨k, k1, rfl⟩, rfl⟩ := q1
    iterate 7 (refine kX_one rfl ?_)
    refine kX_top (hc) ?_
    iterate 2 (refine kX_one rfl ?_)
    refine kX_top (y := nI (28 * N)) (by rw [Nat.mul_comm]; exact pk_mul N 28) ?_
    iterate 1 (refine kX_one rfl ?_)
    refine kX_acpyN (n0 := 28) (n1 := 16800) (f0 := fun _ => 0) (g0 := fun _ => 0) rfl rfl rfl rfl rfl rfl 0 (28 * N) 28 rfl rfl rfl (by decide) (by omega) (by decide) (by decide) (Nat.zero_le 8) ?_
    iterate 4 (refine kX_one rfl ?_)
    refine kX_top (hc) ?_
    iterate 1 (refine kX_one rfl ?_)
    refine kX_iastN rfl rfl (by decide) (N) (by first | rfl | decide) (hN) ?_
    iterate 4 (refine kX_one rfl ?_)
    refine kX_top (hc) ?_
    iterate 1 (refine kX_one rfl ?_)
    refine kX_iastN rfl rfl (by decide) (N) (by first | rfl | decide) (hN) ?_
    iterate 4 (refine kX_one rfl ?_)
    refine kX_top (hc) ?_
    iterate 3 (refine kX_one rfl ?_)
    refine kX_ialdN rfl rfl (by decide) (k) (by first | rfl | decide) (k1) ?_
    refine kX_iastN rfl rfl (by decide) (N) (by first | rfl | decide) (hN) ?_
    iterate 5 (refine kX_one rfl ?_)
    refine kX_top (hc) ?_
    refine kX_iastN rfl rfl (by decide) (k) (by first | rfl | decide) (k1) ?_
    iterate 3 (refine kX_one rfl ?_)
    refine kX_top (hc) ?_
    iterate 2 (refine kX_one rfl ?_)
    refine kX_top (y := nI (N + 1)) (nI_1 N) ?_
    iterate 1 (refine kX_one rfl ?_)
    refine kX_ret (i := .return_) (len := 1) rfl (Or.inr rfl) rfl ⟨rfl, fun c hc => ?_, rfl, rfl, rfl, rfl⟩
    rw [up_ne (by omega), up_ne (by omega), up_ne (by omega), up_ne (by omega), up_ne (by omega), up_ne (by omega)]
end
section
/-! the class: the ways to receive -/
theorem op_at {k : Nat} (h : k < 4) : (fun i => ([224, 225, 226, 227] : List Nat)[i]?) k = some (224 + k) := by
  have : k = 0 ∨ k = 1 ∨ k = 2 ∨ k = 3 := by omega
  rcases this with rfl | rfl | rfl | rfl <;> rfl
theorem kT_op {k : Nat} (h : k < 4) : kT[224 + k]? = some (.inl (0, 200, .inl (fun _ => 0))) := by
  have : k = 0 ∨ k = 1 ∨ k = 2 ∨ k = 3 := by omega
  rcases this with rfl | rfl | rfl | rfl <;> rfl
/-- the GROUND TERMS, by sort -/
def cO (τ : kS) (n : Nat) : Prop := ∀ so, so < 4 → ∃ c, c ≤ 200 ∧ τ 228 so = nI c ∧ ∀ i, i < c → ∃ z, z < n ∧ τ (224 + so) i = nI z ∧ τ 8 z = 1
theorem cO_eq {σ τ : kS} {n : Nat} (e : ∀ z, z < n → τ 8 z = σ 8 z) (e2 : ∀ c, 224 ≤ c → c < 229 → τ c = σ c) (h : cO σ n) : cO τ n := fun so hso => by
  obtain ⟨c, c1, c2, c3⟩ := h so hso
  refine ⟨c, c1, by rw [e2 _ (by decide) (by decide)]; exact c2, fun i hi => ?_⟩
  obtain ⟨z, z1, z2, z3⟩ := c3 i hi
  exact ⟨z, z1, by rw [e2 _ (by omega) (by omega)]; exact z2, by rw [e z z1]; exact z3⟩
set_option maxRecDepth 100000 in
set_option maxHeartbeats 4000000 in
theorem mc_addOption (L : Nat) (xs : Nat → Int32) (d : Nat) (σ : kS) (n so t : Nat) (h : cO σ n) (hso : so < 4) (ht : t < n) (hg : σ 8 t = 1) : kXM kT L xs (d + 1) 30 [.ref 222, .int (nI so), .int (nI t)] σ (fun r σ' => r = none ∧ (∀ c, c < 224 ∨ 229 ≤ c → σ' c = σ c) ∧ cO σ' n) := by
  obtain ⟨c, c1, c2, c3⟩ := h so hso
  unfold kXM
  iterate 3 (refine kX_one rfl ?_)
  refine kX_ialdV rfl rfl (by decide) (so) (by first | rfl | decide) (hso) (c2) ?_
  repeat refine kX_one rfl ?_
  refine kX_if (fun q => ?_) (fun q => ?_)
  · refine kX_ret (i := .return_) (len := 1) rfl (Or.inr rfl) rfl (⟨rfl, fun _ _ => rfl, h⟩)
  · have q := qgeF q c 200
    iterate 3 (refine kX_one rfl ?_)
    refine kX_aaldN rfl (rfl) (by decide) (by decide) (by decide) (so) (by first | rfl | decide) (hso) (op_at hso) ?_
    iterate 3 (refine kX_one rfl ?_)
    refine kX_ialdV rfl rfl (by decide) (so) (by first | rfl | decide) (hso) (c2) ?_
    iterate 1 (refine kX_one rfl ?_)
    refine kX_iastN rfl (kT_op hso) (by decide) (c) (by first | rfl | decide) (q) ?_
    iterate 4 (refine kX_one rfl ?_)
    refine kX_ialdV rfl rfl (by decide) so (by rfl) hso (show (va_up σ (224 + so) (upd (σ (224 + so)) c (nI t))) 228 so = nI c from by rw [up_ne (by omega)]; exact c2) ?_
    iterate 2 (refine kX_one rfl ?_)
    refine kX_top (y := nI (c + 1)) (nI_1 c) ?_
    refine kX_iastN rfl rfl (by decide) (so) (by first | rfl | decide) (hso) ?_
    refine kX_ret (i := .return_) (len := 1) rfl (Or.inr rfl) rfl ⟨rfl, fun e he => by rw [up_ne (by omega), up_ne (by omega)], fun s' hs' => ?_⟩
    by_cases e : s' = so
    · subst e
      refine ⟨c + 1, by omega, by rw [up_eq, pk_us], fun i hi => ?_⟩
      rw [up_ne (by omega), up_eq]
      by_cases e2 : i = c
      · subst e2
        exact ⟨t, ht, pk_us, by rw [up_ne (by omega), up_ne (by omega)]; exact hg⟩
      · rw [pk_un e2]
        obtain ⟨z, z1, z2, z3⟩ := c3 i (by omega)
        exact ⟨z, z1, z2, by rw [up_ne (by omega), up_ne (by omega)]; exact z3⟩
    · obtain ⟨c', a1, a2, a3⟩ := h s' hs'
      refine ⟨c', a1, by rw [up_eq, pk_un e, up_ne (by omega)]; exact a2, fun i hi => ?_⟩
      rw [up_ne (by omega), up_ne (by omega)]
      obtain ⟨z, z1, z2, z3⟩ := a3 i hi
      exact ⟨z, z1, z2, by rw [up_ne (by omega), up_ne (by omega)]; exact z3⟩
set_option maxRecDepth 100000 in
set_option maxHeartbeats 4000000 in
theorem mc_listOptions (L : Nat) (xs : Nat → Int32) (d : Nat) (σ : kS) (n : Nat) (hT : cT σ n) : kXM kT L xs (d + 2) 29 [.ref 222] σ (fun r σ' => r = none ∧ (∀ c, c < 224 ∨ 229 ≤ c → σ' c = σ c) ∧ cO σ' n) := by
  have hn := hT.1
  have loop : ∀ q : Nat × kS, (q.1 ≤ n ∧ (∀ c, c < 224 ∨ 229 ≤ c → q.2 c = σ c) ∧ cO q.2 n) → kX kT L xs (d + 2) 29 10 [(1, .int (nI q.1)), (0, .ref 222)] [] q.2 (fun r σ' => r = none ∧ (∀ c, c < 224 ∨ 229 ≤ c → σ' c = σ c) ∧ cO σ' n) := by
    refine kX_while (fun q : Nat × kS => [(1, .int (nI q.1)), (0, .ref 222)]) (fun q => q.2) _ (fun q => n - q.1) ?_
    rintro ⟨i, τ⟩ ⟨i1, i2, i3⟩ ih
    dsimp only at i1 i2 i3 ih ⊢
    iterate 4 (refine kX_one rfl ?_)
    refine kX_top (y := nI n) (by rw [i2 1 (by decide)]; exact hT.2.1) ?_
    repeat refine kX_one rfl ?_
    refine kX_if (fun q => ?_) (fun q => ?_)
    · refine kX_ret (i := .return_) (len := 1) rfl (Or.inr rfl) rfl (⟨rfl, i2, i3⟩)
    · have q := qgeF q i n
      have k66 : ∀ τ', (∀ c, c < 224 ∨ 229 ≤ c → τ' c = σ c) → cO τ' n → kX kT L xs (d + 2) 29 66 [(1, .int (nI i)), (0, .ref 222)] [] τ' (fun r σ' => r = none ∧ (∀ c, c < 224 ∨ 229 ≤ c → σ' c = σ c) ∧ cO σ' n) := by
        intro τ' t1 t2
        iterate 2 (refine kX_one rfl ?_)
        have := ih (i + 1, τ') ⟨q, t1, t2⟩ (by simp only; omega)
        dsimp only at this
        rw [← nI_1] at this
        exact kX_lv _ rfl rfl rfl this
      have hg : τ 8 i = 0 ∨ τ 8 i = 1 := by
        rw [i2 8 (by decide)]
        exact (hT.2.2.2 i q).2.2.2.1
      iterate 4 (refine kX_one rfl ?_)
      refine kX_baldN rfl rfl (by decide) (i) (by first | rfl | decide) (by omega) ?_
      repeat refine kX_one rfl ?_
      refine kX_if (fun q2 => ?_) (fun q2 => ?_)
      · exact k66 τ i2 i3
      · have hg1 : τ 8 i = 1 := hg.elim (fun z => absurd z (qeqF q2)) id
        iterate 3 (refine kX_one rfl ?_)
        refine kX_cal (mc_addOption L xs d τ n 3 i i3 (by decide) q hg1) rfl (Or.inr rfl) rfl rfl rfl (fun r1 τ1 q1 => ?_)
        obtain ⟨rfl, a1, a2⟩ := q1
        have a3 : ∀ c, c < 224 ∨ 229 ≤ c → τ1 c = σ c := fun c hc => (a1 c hc).trans (i2 c hc)
        obtain ⟨k, k1, k2⟩ := (hT.2.2.2 i q).1
        have k3 : τ1 2 i = nI k := by rw [a3 2 (by decide)]; exact k2
        iterate 4 (refine kX_one rfl ?_)
        refine kX_ialdV rfl rfl (by decide) (i) (by first | rfl | decide) (by omega) (k3) ?_
        repeat refine kX_one rfl ?_
        refine kX_if (fun q3 => ?_) (fun q3 => ?_)
        · exact k66 τ1 a3 a2
        · have q3 := qgeF q3 k 3
          iterate 5 (refine kX_one rfl ?_)
          refine kX_ialdV rfl rfl (by decide) (i) (by first | rfl | decide) (by omega) (k3) ?_
          iterate 1 (refine kX_one rfl ?_)
          refine kX_cal (mc_addOption L xs d τ1 n k i a2 (by omega) q (by rw [a1 8 (by decide)]; exact hg1)) rfl (Or.inr rfl) rfl rfl rfl (fun r1 τ2 q1 => ?_)
          obtain ⟨rfl, b1, b2⟩ := q1
          exact k66 τ2 (fun c hc => (b1 c hc).trans (a3 c hc)) b2
  unfold kXM
  iterate 3 (refine kX_one rfl ?_)
  refine kX_cal (kX_fill (T := kT) L xs d 0 σ (a := 228) (n := 4) (g0 := fun _ => 0) rfl (by decide)) rfl (Or.inr rfl) rfl rfl rfl (fun r1 σ1 q1 => ?_)
  obtain ⟨rfl, rfl⟩ := q1
  iterate 2 (refine kX_one rfl ?_)
  refine kX_lv _ rfl rfl rfl (loop (0, va_up σ 228 (fun j => if j < 4 then 0 else σ 228 j)) ⟨Nat.zero_le _, fun c hc => up_ne (by omega), fun so hso => ⟨0, by decide, ?_, fun i hi => absurd hi (Nat.not_lt_zero i)⟩⟩)
  show (if so < 4 then (0 : Int32) else σ 228 so) = 0
  rw [if_pos hso]
/-- an EVENT's bindings have sorts with options -/
def cW (τ : kS) (a m : Nat) : Prop := ∀ j, j < m → ∃ so c, so < 4 ∧ 0 < c ∧ c ≤ 200 ∧ τ (a + 2) j = nI so ∧ τ 228 so = nI c
set_option maxRecDepth 100000 in
set_option maxHeartbeats 4000000 in
theorem mc_waysOf (L : Nat) (xs : Nat → Int32) (d : Nat) (σ : kS) (n r k : Nat) (h : cO σ n) (hr4 : r < 4) (hk6 : k < 6) (hE : cE σ n (28 + 35 * r + 5 * k)) : kXM kT L xs (d + 1) 31 [.ref 222, .ref (28 + 35 * r + 5 * k)] σ (fun q σ' => (∃ w, q = some (.long w) ∧ (w = 0 ∨ ∀ m, σ (28 + 35 * r + 5 * k) 4 = nI m → m ≤ 6 → cW σ (28 + 35 * r + 5 * k) m)) ∧ σ = σ') := by
  obtain ⟨t, mm, qq, t1, m6, -, t2, m2, -, bd, -⟩ := hE
  have loop : ∀ q : Nat × Int64, (q.1 ≤ mm ∧ (q.2 = 0 ∨ cW σ (28 + 35 * r + 5 * k) q.1)) → kX kT L xs (d + 1) 31 5 [(4, .int (nI q.1)), (2, .long q.2), (0, .ref 222), (1, .ref (28 + 35 * r + 5 * k))] [] σ (fun q σ' => (∃ w, q = some (.long w) ∧ (w = 0 ∨ ∀ m, σ (28 + 35 * r + 5 * k) 4 = nI m → m ≤ 6 → cW σ (28 + 35 * r + 5 * k) m)) ∧ σ = σ') := by
    refine kX_while (fun q : Nat × Int64 => [(4, .int (nI q.1)), (2, .long q.2), (0, .ref 222), (1, .ref (28 + 35 * r + 5 * k))]) (fun _ => σ) _ (fun q => mm - q.1) ?_
    rintro ⟨j, w⟩ ⟨j1, j2⟩ ih
    dsimp only at j1 j2 ih ⊢
    iterate 2 (refine kX_one rfl ?_)
    refine kX_getN rfl rfl (kT_ev hr4 hk6) rfl ?_
    refine kX_top (m2) ?_
    repeat refine kX_one rfl ?_
    refine kX_if (fun q => ?_) (fun q => ?_)
    · have q := qge q j mm
      obtain rfl : j = mm := by omega
      iterate 1 (refine kX_one rfl ?_)
      refine kX_ret (i := .lreturn) (len := 1) rfl (Or.inr rfl) rfl ⟨⟨w, rfl, ?_⟩, rfl⟩
      rcases j2 with z | z
      · exact Or.inl z
      · refine Or.inr (fun m hm hm6 => ?_)
        have : m = j := nI_inj (hm.symm.trans m2)
        rw [this]
        exact z
    · have q := qgeF q j mm
      obtain ⟨-, ⟨so, so1, so2⟩, -⟩ := bd j q
      have hso : so < 4 := by omega
      obtain ⟨c, c1, c2, c3⟩ := h so hso
      iterate 4 (refine kX_one rfl ?_)
      refine kX_getN rfl rfl (kT_ev hr4 hk6) rfl ?_
      iterate 1 (refine kX_one rfl ?_)
      refine kX_ialdV rfl (kT_e1 hr4 hk6 (Or.inr rfl)) (by decide) (j) (by first | rfl | decide) (by omega) (so2) ?_
      refine kX_ialdV rfl rfl (by decide) (so) (by first | rfl | decide) (hso) (c2) ?_
      iterate 5 (refine kX_one rfl ?_)
      have := ih (j + 1, w * (nI c).toInt64) ⟨q, by
        simp only
        rcases j2 with z | z
        · refine Or.inl ?_
          rw [z]
          exact Int64.zero_mul
        · by_cases e : c = 0
          · refine Or.inl ?_
            rw [e]
            exact Int64.mul_zero
          · refine Or.inr (fun i hi => ?_)
            by_cases e2 : i = j
            · subst e2
              exact ⟨so, c, hso, by omega, c1, so2, c2⟩
            · exact z i (by omega)⟩ (by simp only; omega)
      dsimp only at this
      rw [← nI_1] at this
      exact kX_lv _ rfl rfl rfl this
  unfold kXM
  iterate 4 (refine kX_one rfl ?_)
  exact kX_lv _ rfl rfl rfl (loop (0, 1) ⟨Nat.zero_le _, Or.inr (fun j hj => absurd hj (Nat.not_lt_zero j))⟩)
end
