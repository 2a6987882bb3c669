section
/-! the class: session, all of it -/
theorem ag_ground {σ : kS} {n : Nat} {a : Int32} (h : cT σ n) (hA : ∃ t, t < n ∧ a = nI t ∧ σ 2 t = 0) : gV σ n a := by
  obtain ⟨t, t1, t2, t3⟩ := hA
  have hn := h.1
  obtain ⟨-, -, -, -, -, a6, a7, -⟩ := h.2.2.2 t t1
  refine Or.inr ⟨t, t1, t2, ?_⟩
  have h3 : σ 2 t ≠ nI 3 := by rw [t3]; decide
  obtain ⟨f1, f2⟩ := a7 (by rw [t3]; decide)
  rw [a6 h3, f1, f2]
  exact ⟨cG_m1 σ t (by omega), cG_m1 σ t (by omega)⟩
set_option maxRecDepth 100000 in
set_option maxHeartbeats 4000000 in
theorem mk_session (L : Nat) (xs : Nat → Int32) (d : Nat) (σ : kS) (n R S C : Nat) (x a b c : Int32) (h : cJ σ n R S C) : kXM kT L xs (d + 6) 118 [.ref 0, .int x, .int a, .int b, .int c] σ (fun r σ' => (∃ x, r = some (.int x)) ∧ cAfter σ σ' R) := by
  have hT := h.1
  have hn := hT.1
  have hR := h.2.1
  have hR4 := hR.1
  have hSe := h.2.2.1
  have hS4 := hSe.1
  unfold kXM
  iterate 3 (refine kX_one rfl ?_)
  refine kX_cal (mc_hasRole L xs (d + 4) σ R x hR4 hR.2.1) rfl (Or.inr rfl) rfl rfl rfl (fun r1 σ1 q1 => ?_)
  obtain ⟨rfl, rfl⟩ := q1
  repeat refine kX_one rfl ?_
  refine kX_if (fun q => ?_) (fun q => ?_)
  · obtain ⟨r, hr, rfl⟩ := isB_ne.mp (qne q)
    have hr4 : r < 4 := by omega
    obtain ⟨vc, ev, v1, e1, v2, e2, so1, ev1⟩ := hR.2.2 r hr
    have hPle : cnt (fun k => σ (24 + 35 * r) k = 0) vc ≤ vc := cnt_le _ _
    have key : ∀ P, P ≤ 6 → cnt (fun k => σ (24 + 35 * r) k = 0) vc = P → kX kT L xs (d + 6) 118 28 [(5, .int (nI P)), (0, .ref 0), (1, .int (nI r)), (2, .int a), (3, .int b), (4, .int c)] [] σ (fun r σ' => (∃ x, r = some (.int x)) ∧ cAfter σ σ' R) := by
      intro P hP6 hP
      have k79 : kX kT L xs (d + 6) 118 79 [(5, .int (nI P)), (0, .ref 0), (1, .int (nI r)), (2, .int a), (3, .int b), (4, .int c)] [] σ (fun r σ' => (∃ x, r = some (.int x)) ∧ cAfter σ σ' R) := by
        repeat refine kX_one rfl ?_
        refine kX_ret (i := .ireturn) (len := 1) rfl (Or.inr rfl) rfl (⟨⟨_, rfl⟩, cAfter_same h⟩)
      have k132 : kX kT L xs (d + 6) 118 132 [(5, .int (nI P)), (0, .ref 0), (1, .int (nI r)), (2, .int a), (3, .int b), (4, .int c)] [] σ (fun r σ' => (∃ x, r = some (.int x)) ∧ cAfter σ σ' R) := by
        repeat refine kX_one rfl ?_
        refine kX_ret (i := .ireturn) (len := 1) rfl (Or.inr rfl) rfl (⟨⟨_, rfl⟩, cAfter_same h⟩)
      have k205 : ∀ z : Int32, kX kT L xs (d + 6) 118 205 [(6, .int z), (5, .int (nI P)), (0, .ref 0), (1, .int (nI r)), (2, .int a), (3, .int b), (4, .int c)] [] σ (fun r σ' => (∃ x, r = some (.int x)) ∧ cAfter σ σ' R) := by
        intro z
        repeat refine kX_one rfl ?_
        refine kX_ret (i := .ireturn) (len := 1) rfl (Or.inr rfl) rfl (⟨⟨_, rfl⟩, cAfter_same h⟩)
      have k81 : kX kT L xs (d + 6) 118 81 [(5, .int (nI P)), (0, .ref 0), (1, .int (nI r)), (2, .int a), (3, .int b), (4, .int c)] [] σ (fun r σ' => (∃ x, r = some (.int x)) ∧ cAfter σ σ' R) := by
        repeat refine kX_one rfl ?_
        refine kX_if (fun q2 => ?_) (fun q2 => ?_)
        · have hon : σ 181 8 = 0 := qeq q2
          iterate 3 (refine kX_one rfl ?_)
          refine kX_top (hSe.2.1) ?_
          iterate 1 (refine kX_one rfl ?_)
          repeat refine kX_one rfl ?_
          refine kX_if (fun q3 => ?_) (fun q3 => ?_)
          · exact k132
          · have hS := qgeF q3 S 4
            have k191 : kX kT L xs (d + 6) 118 191 [(5, .int (nI P)), (0, .ref 0), (1, .int (nI r)), (2, .int a), (3, .int b), (4, .int c)] [] σ (fun r σ' => (∃ x, r = some (.int x)) ∧ cAfter σ σ' R) := by
              iterate 4 (refine kX_one rfl ?_)
              repeat refine kX_one rfl ?_
              refine kX_if (fun q4 => ?_) (fun q4 => ?_)
              · exact kX_lv _ rfl rfl rfl (k205 0)
              · iterate 2 (refine kX_one rfl ?_)
                exact kX_lv _ rfl rfl rfl (k205 0)
            have k187 : (1 ≤ P → gV σ n a) → (2 ≤ P → gV σ n b) → (3 ≤ P → gV σ n c) → kX kT L xs (d + 6) 118 187 [(5, .int (nI P)), (0, .ref 0), (1, .int (nI r)), (2, .int a), (3, .int b), (4, .int c)] [] σ (fun r σ' => (∃ x, r = some (.int x)) ∧ cAfter σ σ' R) := by
              intro ha hb hc
              iterate 5 (refine kX_one rfl ?_)
              repeat refine kX_one rfl ?_
              refine kX_if (fun q4 => ?_) (fun q4 => ?_)
              · exact kX_lv _ rfl rfl rfl (k205 1)
              · have q4 := qgtF q4 P 3
                iterate 4 (refine kX_one rfl ?_)
                refine kX_cal (mc_forget L xs (d + 2) σ) rfl (Or.inr rfl) rfl rfl rfl (fun r1 ρ q1 => ?_)
                obtain ⟨rfl, g1, g2, -, -, g3⟩ := q1
                have h2 := cJ_sr h g3 (cSr_0 g1 g2)
                have eg : ∀ e, e < 181 → ρ e = σ e := fun e he => g3 e (by omega) (by omega) (by omega)
                have hgv : ∀ w, gV σ n w → gV ρ n w := fun w hw => gV_up (Nat.le_refl _) (fun z _ => by rw [eg _ (by decide)]) hw
                have h24 : ρ (24 + 35 * r) = σ (24 + 35 * r) := eg _ (by omega)
                iterate 6 (refine kX_one rfl ?_)
                refine kX_cal (mc_newSession L xs d ρ n R S C r vc a b c h2 hS hr v1 (by rw [eg _ (by omega)]; exact v2) (by rw [h24, hP]; exact q4) (by rw [h24, hP]; exact fun z => hgv _ (ha z)) (by rw [h24, hP]; exact fun z => hgv _ (hb z)) (by rw [h24, hP]; exact fun z => hgv _ (hc z)) (by rw [g3 181 (by decide) (by decide) (by decide)]; exact hon) g1 g2) rfl (Or.inr rfl) rfl rfl rfl (fun r1 τ q1 => ?_)
                obtain ⟨⟨w, rfl⟩, hA⟩ := q1
                refine kX_ret (i := .ireturn) (len := 1) rfl (Or.inr rfl) rfl (⟨⟨_, rfl⟩, cHi_trans (fun e he => g3 e (by omega) (by omega) (by omega)) hA.1, hA.2⟩)
            have k169 : (1 ≤ P → gV σ n a) → (2 ≤ P → gV σ n b) → kX kT L xs (d + 6) 118 169 [(5, .int (nI P)), (0, .ref 0), (1, .int (nI r)), (2, .int a), (3, .int b), (4, .int c)] [] σ (fun r σ' => (∃ x, r = some (.int x)) ∧ cAfter σ σ' R) := by
              intro ha hb
              iterate 2 (refine kX_one rfl ?_)
              repeat refine kX_one rfl ?_
              refine kX_if (fun q4 => ?_) (fun q4 => ?_)
              · have q4 := qlt q4 P 3
                exact k187 ha hb (fun z => by omega)
              · iterate 3 (refine kX_one rfl ?_)
                refine kX_cal (mc_isAgent L xs (d + 3) σ n c hn hT.2.1) rfl (Or.inr rfl) rfl rfl rfl (fun r1 σ1 q1 => ?_)
                obtain ⟨rfl, rfl⟩ := q1
                repeat refine kX_one rfl ?_
                refine kX_if (fun q5 => ?_) (fun q5 => ?_)
                · exact k191
                · exact k187 ha hb (fun _ => ag_ground hT (isB_ne.mp (qeqF q5)))
            have k152 : (1 ≤ P → gV σ n a) → kX kT L xs (d + 6) 118 152 [(5, .int (nI P)), (0, .ref 0), (1, .int (nI r)), (2, .int a), (3, .int b), (4, .int c)] [] σ (fun r σ' => (∃ x, r = some (.int x)) ∧ cAfter σ σ' R) := by
              intro ha
              iterate 2 (refine kX_one rfl ?_)
              repeat refine kX_one rfl ?_
              refine kX_if (fun q4 => ?_) (fun q4 => ?_)
              · have q4 := qlt q4 P 2
                exact k169 ha (fun z => by omega)
              · iterate 3 (refine kX_one rfl ?_)
                refine kX_cal (mc_isAgent L xs (d + 3) σ n b hn hT.2.1) rfl (Or.inr rfl) rfl rfl rfl (fun r1 σ1 q1 => ?_)
                obtain ⟨rfl, rfl⟩ := q1
                repeat refine kX_one rfl ?_
                refine kX_if (fun q5 => ?_) (fun q5 => ?_)
                · exact k191
                · exact k169 ha (fun _ => ag_ground hT (isB_ne.mp (qeqF q5)))
            iterate 7 (refine kX_one rfl ?_)
            refine kX_aaldN rfl (rfl) (by decide) (by decide) (by decide) (r) (by first | rfl | decide) (hr4) (ro_at hr4) ?_
            iterate 1 (refine kX_one rfl ?_)
            refine kX_cal (mc_countOf L xs (d + 4) σ r vc 1 hr4 v1 v2) rfl (Or.inr rfl) rfl (jcall_v rfl rfl rfl (kT_ro hr4) rfl rfl) rfl (fun r1 σ1 q1 => ?_)
            obtain ⟨rfl, rfl⟩ := q1
            iterate 2 (refine kX_one rfl ?_)
            repeat refine kX_one rfl ?_
            refine kX_if (fun q4 => ?_) (fun q4 => ?_)
            · iterate 2 (refine kX_one rfl ?_)
              repeat refine kX_one rfl ?_
              refine kX_if (fun q5 => ?_) (fun q5 => ?_)
              · have q5 := qlt q5 P 1
                exact k152 (fun z => by omega)
              · iterate 3 (refine kX_one rfl ?_)
                refine kX_cal (mc_isAgent L xs (d + 3) σ n a hn hT.2.1) rfl (Or.inr rfl) rfl rfl rfl (fun r1 σ1 q1 => ?_)
                obtain ⟨rfl, rfl⟩ := q1
                repeat refine kX_one rfl ?_
                refine kX_if (fun q6 => ?_) (fun q6 => ?_)
                · exact k191
                · exact k152 (fun _ => ag_ground hT (isB_ne.mp (qeqF q6)))
            · exact k132
        · repeat refine kX_one rfl ?_
          refine kX_ret (i := .ireturn) (len := 1) rfl (Or.inr rfl) rfl (⟨⟨_, rfl⟩, cAfter_same h⟩)
      have k61 : kX kT L xs (d + 6) 118 61 [(5, .int (nI P)), (0, .ref 0), (1, .int (nI r)), (2, .int a), (3, .int b), (4, .int c)] [] σ (fun r σ' => (∃ x, r = some (.int x)) ∧ cAfter σ σ' R) := by
        iterate 2 (refine kX_one rfl ?_)
        repeat refine kX_one rfl ?_
        refine kX_if (fun q2 => ?_) (fun q2 => ?_)
        · exact k81
        · iterate 3 (refine kX_one rfl ?_)
          refine kX_cal (mc_has L xs (d + 4) σ n c hn hT.2.1) rfl (Or.inr rfl) rfl rfl rfl (fun r1 σ1 q1 => ?_)
          obtain ⟨rfl, rfl⟩ := q1
          repeat refine kX_one rfl ?_
          refine kX_if (fun q3 => ?_) (fun q3 => ?_)
          · exact k81
          · exact k79
      have k44 : kX kT L xs (d + 6) 118 44 [(5, .int (nI P)), (0, .ref 0), (1, .int (nI r)), (2, .int a), (3, .int b), (4, .int c)] [] σ (fun r σ' => (∃ x, r = some (.int x)) ∧ cAfter σ σ' R) := by
        iterate 2 (refine kX_one rfl ?_)
        repeat refine kX_one rfl ?_
        refine kX_if (fun q2 => ?_) (fun q2 => ?_)
        · exact k61
        · iterate 3 (refine kX_one rfl ?_)
          refine kX_cal (mc_has L xs (d + 4) σ n b hn hT.2.1) rfl (Or.inr rfl) rfl rfl rfl (fun r1 σ1 q1 => ?_)
          obtain ⟨rfl, rfl⟩ := q1
          repeat refine kX_one rfl ?_
          refine kX_if (fun q3 => ?_) (fun q3 => ?_)
          · exact k79
          · exact k61
      iterate 1 (refine kX_one rfl ?_)
      repeat refine kX_one rfl ?_
      refine kX_if (fun q2 => ?_) (fun q2 => ?_)
      · exact k44
      · iterate 3 (refine kX_one rfl ?_)
        refine kX_cal (mc_has L xs (d + 4) σ n a hn hT.2.1) rfl (Or.inr rfl) rfl rfl rfl (fun r1 σ1 q1 => ?_)
        obtain ⟨rfl, rfl⟩ := q1
        repeat refine kX_one rfl ?_
        refine kX_if (fun q3 => ?_) (fun q3 => ?_)
        · exact k79
        · exact k44
    iterate 4 (refine kX_one rfl ?_)
    refine kX_aaldN rfl (rfl) (by decide) (by decide) (by decide) (r) (by first | rfl | decide) (hr4) (ro_at hr4) ?_
    iterate 1 (refine kX_one rfl ?_)
    refine kX_cal (mc_countOf L xs (d + 4) σ r vc 0 hr4 v1 v2) rfl (Or.inr rfl) rfl (jcall_v rfl rfl rfl (kT_ro hr4) rfl rfl) rfl (fun r1 σ1 q1 => ?_)
    obtain ⟨rfl, rfl⟩ := q1
    iterate 1 (refine kX_one rfl ?_)
    exact kX_lv _ rfl rfl rfl (key _ (by omega) rfl)
  · repeat refine kX_one rfl ?_
    refine kX_ret (i := .ireturn) (len := 1) rfl (Or.inr rfl) rfl (⟨⟨_, rfl⟩, cAfter_same h⟩)
end
section
/-! the class: VARIABLES in a TERM; what an EVENT binds -/
def tL (n : Nat) (A : Nat → Int32) (m : Nat) : Prop := ∀ j, j < m → ∃ u, u < n ∧ A j = nI u
theorem tL_up {n m u : Nat} {A : Nat → Int32} (h : tL n A m) (hu : u < n) : tL n (upd A m (nI u)) (m + 1) := fun j hj => by
  by_cases e : j = m
  · subst e
    exact ⟨u, hu, pk_us⟩
  · rw [pk_un e]
    exact h j (by omega)
def lvU (σ : kS) (ST VS : Nat → Int32) : kS := va_up (va_up σ 20 ST) 21 VS
set_option maxRecDepth 100000 in
set_option maxHeartbeats 4000000 in
theorem mc_listVars (L : Nat) (xs : Nat → Int32) (d : Nat) (σ : kS) (n t : Nat) (h : cT σ n) (ht : t < n) : kXM kT L xs (d + 2) 11 [.ref 13, .int (nI t)] σ (fun r σ' => ∃ m ST VS, m ≤ 24 ∧ r = some (.int (nI m)) ∧ σ' = lvU σ ST VS ∧ tL n VS m) := by
  have hn := h.1
  unfold kXM
  have loop : ∀ q : Nat × Nat × Nat × (Nat → Int32) × (Nat → Int32), (q.1 ≤ 24 ∧ q.2.1 ≤ q.1 + 1 ∧ q.2.2.1 ≤ q.1 ∧ tL n q.2.2.2.1 q.2.1 ∧ tL n q.2.2.2.2 q.2.2.1) → kX kT L xs (d + 2) 11 14 [(4, .int (nI q.1)), (3, .int (nI q.2.1)), (2, .int (nI q.2.2.1)), (0, .ref 13), (1, .int (nI t))] [] (lvU σ q.2.2.2.1 q.2.2.2.2) (fun r σ' => ∃ m ST VS, m ≤ 24 ∧ r = some (.int (nI m)) ∧ σ' = lvU σ ST VS ∧ tL n VS m) := by
    refine kX_while (fun q : Nat × Nat × Nat × (Nat → Int32) × (Nat → Int32) => [(4, .int (nI q.1)), (3, .int (nI q.2.1)), (2, .int (nI q.2.2.1)), (0, .ref 13), (1, .int (nI t))]) (fun q => lvU σ q.2.2.2.1 q.2.2.2.2) _ (fun q => 24 - q.1) ?_
    rintro ⟨i, w, m, ST, VS⟩ ⟨i1, i2, i3, i4, i5⟩ ih
    dsimp only at i1 i2 i3 i4 i5 ih ⊢
    have k145 : kX kT L xs (d + 2) 11 145 [(4, .int (nI i)), (3, .int (nI w)), (2, .int (nI m)), (0, .ref 13), (1, .int (nI t))] [] (lvU σ ST VS) (fun r σ' => ∃ m ST VS, m ≤ 24 ∧ r = some (.int (nI m)) ∧ σ' = lvU σ ST VS ∧ tL n VS m) := by
      iterate 1 (refine kX_one rfl ?_)
      refine kX_ret (i := .ireturn) (len := 1) rfl (Or.inr rfl) rfl (⟨m, ST, VS, by omega, rfl, rfl, i5⟩)
    iterate 2 (refine kX_one rfl ?_)
    repeat refine kX_one rfl ?_
    refine kX_if (fun q => ?_) (fun q => ?_)
    · exact k145
    · have q := qgeF q i 24
      iterate 1 (refine kX_one rfl ?_)
      repeat refine kX_one rfl ?_
      refine kX_if (fun q2 => ?_) (fun q2 => ?_)
      · exact k145
      · have q2 := qleF q2 w 0
        obtain ⟨w, rfl⟩ : ∃ w', w = w' + 1 := ⟨w - 1, by omega⟩
        obtain ⟨u, u1, u2⟩ := i4 w (by omega)
        have k139 : ∀ w2 m2 ST2 VS2, w2 ≤ w + 2 → m2 ≤ m + 1 → tL n ST2 w2 → tL n VS2 m2 → kX kT L xs (d + 2) 11 139 [(5, .int (nI u)), (4, .int (nI i)), (3, .int (nI w2)), (2, .int (nI m2)), (0, .ref 13), (1, .int (nI t))] [] (lvU σ ST2 VS2) (fun r σ' => ∃ m ST VS, m ≤ 24 ∧ r = some (.int (nI m)) ∧ σ' = lvU σ ST VS ∧ tL n VS m) := by
          intro w2 m2 ST2 VS2 x1 x2 x3 x4
          iterate 2 (refine kX_one rfl ?_)
          have := ih (i + 1, w2, m2, ST2, VS2) ⟨q, by simp only; omega, by simp only; omega, x3, x4⟩ (by simp only; omega)
          dsimp only at this
          rw [← nI_1] at this
          exact kX_lv _ rfl rfl rfl this
        have k100 : ∀ w2 m2 ST2 VS2, w2 ≤ w + 1 → m2 ≤ m + 1 → tL n ST2 w2 → tL n VS2 m2 → kX kT L xs (d + 2) 11 100 [(5, .int (nI u)), (4, .int (nI i)), (3, .int (nI w2)), (2, .int (nI m2)), (0, .ref 13), (1, .int (nI t))] [] (lvU σ ST2 VS2) (fun r σ' => ∃ m ST VS, m ≤ 24 ∧ r = some (.int (nI m)) ∧ σ' = lvU σ ST VS ∧ tL n VS m) := by
          intro w2 m2 ST2 VS2 x1 x2 x3 x4
          iterate 6 (refine kX_one rfl ?_)
          refine kX_ialdN rfl rfl (by decide) (u) (by first | rfl | decide) (by omega) ?_
          refine kX_cal (mc_has L xs d (lvU σ ST2 VS2) n _ hn h.2.1) rfl (Or.inr rfl) rfl rfl rfl (fun r1 σ1 q1 => ?_)
          obtain ⟨rfl, rfl⟩ := q1
          repeat refine kX_one rfl ?_
          refine kX_if (fun q3 => ?_) (fun q3 => ?_)
          · exact k139 w2 m2 ST2 VS2 (by omega) x2 x3 x4
          · obtain ⟨z, z1, z2⟩ := isB_ne.mp (qeqF q3)
            have z2 : σ 3 u = nI z := z2
            iterate 7 (refine kX_one rfl ?_)
            refine kX_ialdV rfl rfl (by decide) (u) (by first | rfl | decide) (by omega) (z2) ?_
            refine kX_iastN rfl rfl (by decide) (w2) (by first | rfl | decide) (by omega) ?_
            iterate 1 (refine kX_one rfl ?_)
            have := k139 (w2 + 1) m2 (upd ST2 w2 (nI z)) VS2 (by omega) x2 (tL_up x3 z1) x4
            rw [← nI_1] at this
            refine kX_to _ _ rfl rfl rfl ?_ this
            funext c; unfold lvU va_up; repeat' split
            all_goals first | rfl | omega | (subst_vars; rfl) | (funext j; unfold upd; repeat' split; all_goals first | rfl | omega | (subst_vars; rfl))
        have k61 : ∀ m2 VS2, m2 ≤ m + 1 → tL n VS2 m2 → kX kT L xs (d + 2) 11 61 [(5, .int (nI u)), (4, .int (nI i)), (3, .int (nI w)), (2, .int (nI m2)), (0, .ref 13), (1, .int (nI t))] [] (lvU σ ST VS2) (fun r σ' => ∃ m ST VS, m ≤ 24 ∧ r = some (.int (nI m)) ∧ σ' = lvU σ ST VS ∧ tL n VS m) := by
          intro m2 VS2 x2 x4
          have i4' : tL n ST w := fun j hj => i4 j (by omega)
          iterate 6 (refine kX_one rfl ?_)
          refine kX_ialdN rfl rfl (by decide) (u) (by first | rfl | decide) (by omega) ?_
          refine kX_cal (mc_has L xs d (lvU σ ST VS2) n _ hn h.2.1) rfl (Or.inr rfl) rfl rfl rfl (fun r1 σ1 q1 => ?_)
          obtain ⟨rfl, rfl⟩ := q1
          repeat refine kX_one rfl ?_
          refine kX_if (fun q3 => ?_) (fun q3 => ?_)
          · exact k100 w m2 ST VS2 (by omega) x2 i4' x4
          · obtain ⟨z, z1, z2⟩ := isB_ne.mp (qeqF q3)
            have z2 : σ 4 u = nI z := z2
            iterate 7 (refine kX_one rfl ?_)
            refine kX_ialdV rfl rfl (by decide) (u) (by first | rfl | decide) (by omega) (z2) ?_
            refine kX_iastN rfl rfl (by decide) (w) (by first | rfl | decide) (by omega) ?_
            iterate 1 (refine kX_one rfl ?_)
            have := k100 (w + 1) m2 (upd ST w (nI z)) VS2 (by omega) x2 (tL_up i4' z1) x4
            rw [← nI_1] at this
            refine kX_to _ _ rfl rfl rfl ?_ this
            funext c; unfold lvU va_up; repeat' split
            all_goals first | rfl | omega | (subst_vars; rfl) | (funext j; unfold upd; repeat' split; all_goals first | rfl | omega | (subst_vars; rfl))
        iterate 1 (refine kX_one rfl ?_)
        refine kX_lv [(3, .int (nI w)), (4, .int (nI i)), (2, .int (nI m)), (0, .ref 13), (1, .int (nI t))] rfl rfl ?_ ?_
        · rw [show nI w = nI (w + 1) + Int32.ofInt (-1) from (pk_m1 _).symm]
          rfl
        iterate 3 (refine kX_one rfl ?_)
        refine kX_ialdV rfl rfl (by decide) (w) (by first | rfl | decide) (by omega) (u2) ?_
        iterate 5 (refine kX_one rfl ?_)
        refine kX_ialdN rfl rfl (by decide) (u) (by first | rfl | decide) (by omega) ?_
        iterate 1 (refine kX_one rfl ?_)
        repeat refine kX_one rfl ?_
        refine kX_if (fun q3 => ?_) (fun q3 => ?_)
        · exact kX_lv _ rfl rfl rfl (k61 m VS (by omega) i5)
        · iterate 4 (refine kX_one rfl ?_)
          refine kX_iastN rfl rfl (by decide) (m) (by first | rfl | decide) (by omega) ?_
          iterate 1 (refine kX_one rfl ?_)
          have := k61 (m + 1) (upd VS m (nI u)) (by omega) (tL_up i5 u1)
          rw [← nI_1] at this
          refine kX_to _ _ rfl rfl rfl ?_ this
          funext c; unfold lvU va_up; repeat' split
          all_goals first | rfl | omega | (subst_vars; rfl) | (funext j; unfold upd; repeat' split; all_goals first | rfl | omega | (subst_vars; rfl))
  iterate 8 (refine kX_one rfl ?_)
  refine kX_iastN rfl rfl (by decide) (0) (by first | rfl | decide) (by decide) ?_
  iterate 2 (refine kX_one rfl ?_)
  have := loop (0, 1, 0, upd (σ 20) 0 (nI t), σ 21) ⟨Nat.zero_le _, Nat.le_refl _, Nat.le_refl _, fun j hj => ⟨t, ht, by
    obtain rfl : j = 0 := by simp only at hj; omega
    show upd (σ 20) 0 (nI t) 0 = nI t
    exact pk_us⟩, fun j hj => absurd hj (Nat.not_lt_zero j)⟩
  refine kX_to _ _ rfl rfl rfl ?_ this
  funext c; unfold lvU va_up; repeat' split
  all_goals first | rfl | omega | (subst_vars; rfl) | (funext j; unfold upd; repeat' split; all_goals first | rfl | omega | (subst_vars; rfl))
set_option maxRecDepth 100000 in
set_option maxHeartbeats 4000000 in
theorem mc_waitsFor (L : Nat) (xs : Nat → Int32) (d : Nat) (σ : kS) (r v : Nat) (x : Int32) (hr : r < 4) (hv : v ≤ 6) (h : σ (23 + 35 * r) 3 = nI v) : kXM kT L xs (d + 2) 63 [.ref (23 + 35 * r), .int x] σ (fun q σ' => (q = some (.int 0) ∨ (q = some (.int 1) ∧ isN x v)) ∧ σ = σ') := by
  unfold kXM
  iterate 2 (refine kX_one rfl ?_)
  refine kX_cal (mc_roHas L xs d σ r v x hr hv h) rfl (Or.inr rfl) rfl (jcall_v rfl rfl rfl (kT_ro hr) rfl rfl) rfl (fun r1 σ1 q1 => ?_)
  obtain ⟨rfl, rfl⟩ := q1
  repeat refine kX_one rfl ?_
  refine kX_if (fun q => ?_) (fun q => ?_)
  · repeat refine kX_one rfl ?_
    refine kX_ret (i := .ireturn) (len := 1) rfl (Or.inr rfl) rfl (⟨Or.inl rfl, rfl⟩)
  · obtain ⟨k, k1, rfl⟩ := isB_ne.mp (qeqF q)
    iterate 1 (refine kX_one rfl ?_)
    refine kX_getN rfl rfl (kT_ro hr) rfl ?_
    iterate 1 (refine kX_one rfl ?_)
    refine kX_ialdN rfl (kT_ra hr) (by decide) (k) (by first | rfl | decide) (by omega) ?_
    iterate 1 (refine kX_one rfl ?_)
    repeat refine kX_one rfl ?_
    refine kX_if (fun q2 => ?_) (fun q2 => ?_)
    · repeat refine kX_one rfl ?_
      refine kX_ret (i := .ireturn) (len := 1) rfl (Or.inr rfl) rfl (⟨Or.inl rfl, rfl⟩)
    · iterate 1 (refine kX_one rfl ?_)
      refine kX_getN rfl rfl (kT_ro hr) rfl ?_
      iterate 1 (refine kX_one rfl ?_)
      refine kX_baldN rfl (kT_rr hr) (by decide) (k) (by first | rfl | decide) (by omega) ?_
      repeat refine kX_one rfl ?_
      refine kX_if (fun q3 => ?_) (fun q3 => ?_)
      · repeat refine kX_one rfl ?_
        refine kX_ret (i := .ireturn) (len := 1) rfl (Or.inr rfl) rfl (⟨Or.inl rfl, rfl⟩)
      · repeat refine kX_one rfl ?_
        refine kX_ret (i := .ireturn) (len := 1) rfl (Or.inr rfl) rfl (⟨Or.inr ⟨rfl, k, k1, rfl⟩, rfl⟩)
set_option maxRecDepth 100000 in
set_option maxHeartbeats 4000000 in
theorem mc_mayBeEvent (L : Nat) (xs : Nat → Int32) (d : Nat) (σ : kS) (n R r t v : Nat) (b : Int32) (h : cT σ n) (hR : R ≤ 4) (hr : r < R) (ht : t < n) (hv : v ≤ 6) (hvc : σ (23 + 35 * r) 3 = nI v) : kXM kT L xs (d + 3) 8 [.ref 13, .int (nI r), .int b, .int (nI t)] σ (fun q σ' => (q = some (.int 0) ∨ q = some (.int 1)) ∧ ∃ ST VS, σ' = lvU σ ST VS) := by
  have hn := h.1
  have hr4 : r < 4 := by omega
  unfold kXM
  iterate 2 (refine kX_one rfl ?_)
  refine kX_cal (mc_listVars L xs d σ n t h ht) rfl (Or.inr rfl) rfl rfl rfl (fun r1 σ1 q1 => ?_)
  obtain ⟨m, ST, VS, m1, rfl, rfl, hl⟩ := q1
  have hvc2 : lvU σ ST VS (23 + 35 * r) 3 = nI v := by
    unfold lvU
    rw [up_ne (by omega), up_ne (by omega)]
    exact hvc
  have loop : ∀ i : Nat, i ≤ m → kX kT L xs (d + 3) 8 10 [(5, .int (nI i)), (4, .int (nI m)), (0, .ref 13), (1, .int (nI r)), (2, .int b), (3, .int (nI t))] [] (lvU σ ST VS) (fun q σ' => (q = some (.int 0) ∨ q = some (.int 1)) ∧ ∃ ST VS, σ' = lvU σ ST VS) := by
    refine kX_while (fun i : Nat => [(5, .int (nI i)), (4, .int (nI m)), (0, .ref 13), (1, .int (nI r)), (2, .int b), (3, .int (nI t))]) (fun _ => lvU σ ST VS) (fun i => i ≤ m) (fun i => m - i) ?_
    intro i hi ih
    iterate 2 (refine kX_one rfl ?_)
    repeat refine kX_one rfl ?_
    refine kX_if (fun q => ?_) (fun q => ?_)
    · repeat refine kX_one rfl ?_
      refine kX_ret (i := .ireturn) (len := 1) rfl (Or.inr rfl) rfl (⟨Or.inr rfl, ST, VS, rfl⟩)
    · have q := qgeF q i m
      obtain ⟨u, u1, u2⟩ := hl i q
      have k70 : kX kT L xs (d + 3) 8 70 [(6, .int (nI u)), (5, .int (nI i)), (4, .int (nI m)), (0, .ref 13), (1, .int (nI r)), (2, .int b), (3, .int (nI t))] [] (lvU σ ST VS) (fun q σ' => (q = some (.int 0) ∨ q = some (.int 1)) ∧ ∃ ST VS, σ' = lvU σ ST VS) := by
        iterate 2 (refine kX_one rfl ?_)
        have := ih (i + 1) q (by omega)
        rw [← nI_1] at this
        exact kX_lv _ rfl rfl rfl this
      iterate 3 (refine kX_one rfl ?_)
      refine kX_ialdV rfl rfl (by decide) (i) (by first | rfl | decide) (by omega) (u2) ?_
      iterate 5 (refine kX_one rfl ?_)
      refine kX_ialdN rfl rfl (by decide) (u) (by first | rfl | decide) (by omega) ?_
      iterate 1 (refine kX_one rfl ?_)
      repeat refine kX_one rfl ?_
      refine kX_if (fun q2 => ?_) (fun q2 => ?_)
      · iterate 1 (refine kX_one rfl ?_)
        repeat refine kX_one rfl ?_
        refine kX_if (fun q3 => ?_) (fun q3 => ?_)
        · exact k70
        · iterate 3 (refine kX_one rfl ?_)
          refine kX_aaldN rfl (rfl) (by decide) (by decide) (by decide) (r) (by first | rfl | decide) (hr4) (ro_at hr4) ?_
          iterate 4 (refine kX_one rfl ?_)
          refine kX_ialdN rfl rfl (by decide) (u) (by first | rfl | decide) (by omega) ?_
          refine kX_cal (mc_waitsFor L xs d (lvU σ ST VS) r v _ hr4 hv hvc2) rfl (Or.inr rfl) rfl (jcall_v rfl rfl rfl (kT_ro hr4) rfl rfl) rfl (fun r1 σ1 q1 => ?_)
          obtain ⟨hq, rfl⟩ := q1
          rcases hq with rfl | ⟨rfl, -⟩
          · iterate 1 (refine kX_one rfl ?_)
            exact k70
          · repeat refine kX_one rfl ?_
            refine kX_ret (i := .ireturn) (len := 1) rfl (Or.inr rfl) rfl (⟨Or.inl rfl, ST, VS, rfl⟩)
      · repeat refine kX_one rfl ?_
        refine kX_ret (i := .ireturn) (len := 1) rfl (Or.inr rfl) rfl (⟨Or.inl rfl, ST, VS, rfl⟩)
  iterate 3 (refine kX_one rfl ?_)
  exact kX_lv _ rfl rfl rfl (loop 0 (Nat.zero_le _))
end
section
/-! the class: bindIn -/
/-- what an EVENT binds, up to m -/
def bnI (τ : kS) (a m : Nat) : Prop := m ≤ 6 ∧ τ a 4 = nI m ∧ ∀ j, j < m → (∃ p, p < 6 ∧ τ (a + 1) j = nI p) ∧ ∃ so, so ≤ 3 ∧ τ (a + 2) j = nI so
def bnF (ρ τ : kS) (r a : Nat) : Prop := (∀ c, c ≠ 26 + 35 * r → c ≠ a → c ≠ a + 1 → c ≠ a + 2 → τ c = ρ c) ∧ ∀ j, j ≠ 4 → τ a j = ρ a j
set_option maxRecDepth 100000 in
set_option maxHeartbeats 4000000 in
theorem mc_bindIn (L : Nat) (xs : Nat → Int32) (d : Nat) (σ : kS) (n r k t v : Nat) (h : cT σ n) (hr : r < 4) (hk : k < 6) (ht : t < n) (hv : v ≤ 6) (hvc : σ (23 + 35 * r) 3 = nI v) (hso : ∀ j, j < v → ∃ so, so ≤ 3 ∧ σ (25 + 35 * r) j = nI so) (hte : σ (28 + 35 * r + 5 * k) 1 = nI t) (hbc : σ (28 + 35 * r + 5 * k) 4 = 0) : kXM kT L xs (d + 3) 10 [.ref 13, .ref (23 + 35 * r), .ref (28 + 35 * r + 5 * k)] σ (fun q σ' => q = none ∧ ∃ ST VS m, bnF (lvU σ ST VS) σ' r (28 + 35 * r + 5 * k) ∧ bnI σ' (28 + 35 * r + 5 * k) m) := by
  have hn := h.1
  unfold kXM
  iterate 2 (refine kX_one rfl ?_)
  refine kX_getN rfl rfl (kT_ev hr hk) rfl ?_
  refine kX_top (hte) ?_
  refine kX_cal (mc_listVars L xs d σ n t h ht) rfl (Or.inr rfl) rfl rfl rfl (fun r1 σ1 q1 => ?_)
  obtain ⟨c, ST, VS, c1, rfl, rfl, hl⟩ := q1
  have hlv : ∀ e, e ≠ 20 → e ≠ 21 → lvU σ ST VS e = σ e := fun e x1 x2 => by
    unfold lvU
    rw [up_ne x2, up_ne x1]
  have hVS : lvU σ ST VS 21 = VS := rfl
  generalize hρ : lvU σ ST VS = ρ at *
  generalize ha : 28 + 35 * r + 5 * k = a at *
  have haa : 28 + 35 * r ≤ a ∧ a + 5 ≤ 58 + 35 * r := by omega
  have hEv := kT_ev hr hk
  have hE1 := kT_e1 (i := 1) hr hk (Or.inl rfl)
  have hE2 := kT_e1 (i := 2) hr hk (Or.inr rfl)
  rw [ha] at hEv hE1 hE2
  have loop : ∀ q : Nat × kS × Nat, (q.1 ≤ c ∧ bnF ρ q.2.1 r a ∧ bnI q.2.1 a q.2.2) → kX kT L xs (d + 3) 10 12 [(4, .int (nI q.1)), (3, .int (nI c)), (0, .ref 13), (1, .ref (23 + 35 * r)), (2, .ref a)] [] q.2.1 (fun q σ' => q = none ∧ ∃ ST VS m, bnF (lvU σ ST VS) σ' r a ∧ bnI σ' a m) := by
    refine kX_while (fun q : Nat × kS × Nat => [(4, .int (nI q.1)), (3, .int (nI c)), (0, .ref 13), (1, .ref (23 + 35 * r)), (2, .ref a)]) (fun q => q.2.1) _ (fun q => c - q.1) ?_
    rintro ⟨i, τ, m⟩ ⟨i1, ⟨f1, f2⟩, m6, i3, i4⟩ ih
    dsimp only at i1 f1 f2 m6 i3 i4 ih ⊢
    iterate 2 (refine kX_one rfl ?_)
    repeat refine kX_one rfl ?_
    refine kX_if (fun q => ?_) (fun q => ?_)
    · repeat refine kX_one rfl ?_
      refine kX_ret (i := .return_) (len := 1) rfl (Or.inr rfl) rfl ⟨rfl, ST, VS, m, ?_, m6, i3, i4⟩
      rw [hρ]
      exact ⟨f1, f2⟩
    · have q := qgeF q i c
      obtain ⟨u, u1, u2⟩ := hl i q
      have k98 : ∀ (y : Int32) τ' m', bnF ρ τ' r a → bnI τ' a m' → kX kT L xs (d + 3) 10 98 [(5, .int y), (4, .int (nI i)), (3, .int (nI c)), (0, .ref 13), (1, .ref (23 + 35 * r)), (2, .ref a)] [] τ' (fun q σ' => q = none ∧ ∃ ST VS m, bnF (lvU σ ST VS) σ' r a ∧ bnI σ' a m) := by
        intro y τ' m' x1 x2
        iterate 2 (refine kX_one rfl ?_)
        have := ih (i + 1, τ', m') ⟨q, x1, x2⟩ (by simp only; omega)
        dsimp only at this
        rw [← nI_1] at this
        exact kX_lv _ rfl rfl rfl this
      have e21 : τ 21 i = nI u := by
        rw [f1 _ (by omega) (by omega) (by omega) (by omega), hVS]
        exact u2
      have hvc2 : τ (23 + 35 * r) 3 = nI v := by
        rw [f1 _ (by omega) (by omega) (by omega) (by omega), hlv _ (by omega) (by omega)]
        exact hvc
      iterate 6 (refine kX_one rfl ?_)
      refine kX_ialdV rfl rfl (by decide) (i) (by first | rfl | decide) (by omega) (e21) ?_
      refine kX_ialdN rfl rfl (by decide) (u) (by first | rfl | decide) (by omega) ?_
      iterate 3 (refine kX_one rfl ?_)
      refine kX_cal (mc_waitsFor L xs (d + 0) τ r v _ hr hv hvc2) rfl (Or.inr rfl) rfl (jcall_v rfl rfl rfl (kT_ro hr) rfl rfl) rfl (fun r1 σ1 q1 => ?_)
      obtain ⟨hq, rfl⟩ := q1
      rcases hq with rfl | ⟨rfl, p, p1, p2⟩
      · iterate 1 (refine kX_one rfl ?_)
        exact kX_lv _ rfl rfl rfl (k98 _ τ m ⟨f1, f2⟩ ⟨m6, i3, i4⟩)
      · have p2 : τ 12 u = nI p := p2
        obtain ⟨so, so1, so2⟩ := hso p p1
        iterate 2 (refine kX_one rfl ?_)
        refine kX_getN rfl rfl (hEv) rfl ?_
        refine kX_top (i3) ?_
        iterate 1 (refine kX_one rfl ?_)
        repeat refine kX_one rfl ?_
        refine kX_if (fun q2 => ?_) (fun q2 => ?_)
        · exact kX_lv _ rfl rfl rfl (k98 _ τ m ⟨f1, f2⟩ ⟨m6, i3, i4⟩)
        · have q2 := qgeF q2 m 6
          refine kX_lv [(5, .int (nI p)), (4, .int (nI i)), (3, .int (nI c)), (0, .ref 13), (1, .ref (23 + 35 * r)), (2, .ref a)] rfl rfl (by rw [← p2]; rfl) ?_
          iterate 1 (refine kX_one rfl ?_)
          refine kX_getN rfl rfl (kT_ro hr) rfl ?_
          iterate 2 (refine kX_one rfl ?_)
          refine kX_bastN rfl (kT_rr hr) (by decide) (p) (by first | rfl | decide) (by omega) (Or.inr rfl) ?_
          iterate 1 (refine kX_one rfl ?_)
          refine kX_getN rfl rfl (hEv) rfl ?_
          iterate 1 (refine kX_one rfl ?_)
          refine kX_getN rfl rfl (hEv) rfl ?_
          refine kX_top (y := nI m) (by rw [up_ne (by omega)]; exact i3) ?_
          iterate 1 (refine kX_one rfl ?_)
          refine kX_iastN rfl (hE1) (by decide) (m) (by first | rfl | decide) (q2) ?_
          iterate 1 (refine kX_one rfl ?_)
          refine kX_getN rfl rfl (hEv) rfl ?_
          iterate 1 (refine kX_one rfl ?_)
          refine kX_getN rfl rfl (hEv) rfl ?_
          refine kX_top (y := nI m) (by rw [up_ne (by omega), up_ne (by omega)]; exact i3) ?_
          iterate 1 (refine kX_one rfl ?_)
          refine kX_getN rfl rfl (kT_ro hr) rfl ?_
          iterate 1 (refine kX_one rfl ?_)
          refine kX_ialdV rfl (kT_rs hr) (by decide) (p) (by first | rfl | decide) (by omega) ((congrFun (up_ne (by omega)) p).trans ((congrFun (up_ne (by omega)) p).trans ((congrFun (f1 _ (by omega) (by omega) (by omega) (by omega)) p).trans ((congrFun (hlv _ (by omega) (by omega)) p).trans so2)))) ?_
          refine kX_iastN rfl (hE2) (by decide) (m) (by first | rfl | decide) (q2) ?_
          iterate 2 (refine kX_one rfl ?_)
          refine kX_getN rfl rfl (hEv) rfl ?_
          refine kX_top (y := nI m) (by rw [up_ne (by omega), up_ne (by omega), up_ne (by omega)]; exact i3) ?_
          iterate 2 (refine kX_one rfl ?_)
          refine kX_putN rfl rfl (hEv) rfl (rfl) rfl ?_
          refine kX_lv _ rfl rfl rfl (k98 (nI p) _ (m + 1) ⟨fun e x1 x2 x3 x4 => ?_, fun j hj => ?_⟩ ⟨by omega, ?_, fun j hj => ?_⟩)
          · rw [up_ne x2, up_ne x4, up_ne x3, up_ne x1]
            exact f1 e x1 x2 x3 x4
          · rw [up_eq, up_ne (by omega), up_ne (by omega), up_ne (by omega)]
            exact (pk_un hj).trans (f2 j hj)
          · rw [up_eq, ← nI_1]
            exact pk_us
          · rw [up_ne (show a + 1 ≠ a by omega), up_ne (show a + 1 ≠ a + 2 by omega), up_eq, up_ne (show a + 2 ≠ a by omega), up_eq, up_ne (show a + 1 ≠ 26 + 35 * r by omega)]
            rw [up_ne (show a + 2 ≠ a + 1 by omega), up_ne (show a + 2 ≠ 26 + 35 * r by omega)]
            by_cases e : j = m
            · subst e
              rw [pk_us, pk_us]
              exact ⟨⟨p, by omega, rfl⟩, so, so1, rfl⟩
            · rw [pk_un e, pk_un e]
              exact i4 j (by omega)
  iterate 3 (refine kX_one rfl ?_)
  have := loop (0, ρ, 0) ⟨Nat.zero_le _, ⟨fun _ _ _ _ _ => rfl, fun _ _ => rfl⟩, Nat.zero_le _, (congrFun (hlv a (by omega) (by omega)) _).trans hbc, fun j hj => absurd hj (Nat.not_lt_zero j)⟩
  exact kX_lv _ rfl rfl rfl this
end
section
/-! the class: plan -/
theorem min_ok {t n : Nat} (h : t < n) (hn : n ≤ 200) : jmmv 3 (nI t) (nI n - 1) = nI t := by
  obtain ⟨m, rfl⟩ : ∃ m, n = m + 1 := ⟨n - 1, by omega⟩
  rw [nI_pred]
  unfold jmmv
  rw [if_neg (by decide), if_neg (by decide), if_neg]
  rw [Int32.lt_iff_toInt_lt, nI_toInt (by omega), nI_toInt (by omega)]
  omega
/-- an open TERM's parts -/
theorem cT_open {σ : kS} {n u : Nat} (h : cT σ n) (hu : u < n) (hg : σ 8 u = 0) (hk : σ 2 u ≠ 3) : ∃ x, x < u ∧ σ 3 u = nI x ∧ ((∃ y, y < u ∧ σ 4 u = nI y) ∨ (σ 4 u = -1 ∧ (σ 2 u = nI 7 ∨ σ 2 u = nI 9))) := by
  have hn := h.1
  obtain ⟨⟨k, k1, k2⟩, -, -, -, -, a6, a7, a8, -⟩ := h.2.2.2 u hu
  have h3 : k ≠ 3 := fun e => hk (by rw [k2, e]; rfl)
  have hf : fN (σ 2 u) = k := by rw [k2]; exact fN_nI (by omega)
  rw [hf] at a7 a8
  by_cases e : k ≤ 3
  · exfalso
    obtain ⟨f1, f2⟩ := a7 e
    have : σ 8 u = 1 := by
      rw [a6 (by rw [k2]; exact nI_ne h3), f1, f2]
      exact ⟨cG_m1 σ u (by omega), cG_m1 σ u (by omega)⟩
    rw [hg] at this
    exact absurd this (by decide)
  · exact a8 (by omega) hg
set_option maxRecDepth 100000 in
set_option maxHeartbeats 4000000 in
theorem mc_markParts (L : Nat) (xs : Nat → Int32) (d : Nat) (σ : kS) (n r k t : Nat) (h : cT σ n) (hr : r < 4) (hk : k < 6) (ht : t < n) (hte : σ (28 + 35 * r + 5 * k) 1 = nI t) : kXM kT L xs (d + 3) 42 [.ref (28 + 35 * r + 5 * k), .ref 1, .ref 22] σ (fun q σ' => q = none ∧ ∃ LV, σ' = va_up σ 22 LV) := by
  have hn := h.1
  have hEv := kT_ev hr hk
  generalize ha : 28 + 35 * r + 5 * k = a at *
  unfold kXM
  have loop : ∀ q : Nat × (Nat → Int32), q.1 ≤ n → kX kT L xs (d + 3) 42 19 [(3, .int (nI q.1 - 1)), (0, .ref a), (1, .ref 1), (2, .ref 22)] [] (va_up σ 22 q.2) (fun q σ' => q = none ∧ ∃ LV, σ' = va_up σ 22 LV) := by
    refine kX_while (fun q : Nat × (Nat → Int32) => [(3, .int (nI q.1 - 1)), (0, .ref a), (1, .ref 1), (2, .ref 22)]) (fun q => va_up σ 22 q.2) (fun q => q.1 ≤ n) (fun q => q.1) ?_
    rintro ⟨K, LV⟩ i1 ih
    dsimp only at i1 ih ⊢
    rcases Nat.eq_zero_or_pos K with rfl | hK
    · iterate 2 (refine kX_one rfl ?_)
      refine kX_ret (i := .return_) (len := 1) rfl (Or.inr rfl) rfl (⟨rfl, LV, rfl⟩)
    · obtain ⟨u, rfl⟩ : ∃ u, K = u + 1 := ⟨K - 1, by omega⟩
      rw [nI_pred]
      have k84 : ∀ LV', kX kT L xs (d + 3) 42 84 [(3, .int (nI u)), (0, .ref a), (1, .ref 1), (2, .ref 22)] [] (va_up σ 22 LV') (fun q σ' => q = none ∧ ∃ LV, σ' = va_up σ 22 LV) := by
        intro LV'
        iterate 2 (refine kX_one rfl ?_)
        have := ih (u, LV') (by simp only; omega) (by simp only; omega)
        dsimp only at this
        rw [← nI_dec] at this
        exact kX_lv _ rfl rfl rfl this
      have k35 : ∀ LV', kX kT L xs (d + 3) 42 35 [(3, .int (nI u)), (0, .ref a), (1, .ref 1), (2, .ref 22)] [] (va_up σ 22 LV') (fun q σ' => q = none ∧ ∃ LV, σ' = va_up σ 22 LV) := by
        intro LV'
        iterate 2 (refine kX_one rfl ?_)
        refine kX_ialdN rfl rfl (by decide) (u) (by first | rfl | decide) (by omega) ?_
        iterate 1 (refine kX_one rfl ?_)
        repeat refine kX_one rfl ?_
        refine kX_if (fun q => ?_) (fun q => ?_)
        · exact k84 LV'
        · iterate 2 (refine kX_one rfl ?_)
          refine kX_cal (mc_isOpen L xs d (va_up σ 22 LV') n (nI u) hn h.2.1) rfl (Or.inr rfl) rfl rfl rfl (fun r1 σ1 q1 => ?_)
          obtain ⟨rfl, rfl⟩ := q1
          repeat refine kX_one rfl ?_
          refine kX_if (fun q2 => ?_) (fun q2 => ?_)
          · obtain ⟨u', u1, u2, u3, u4⟩ := isB_ne.mp (qne q2)
            obtain rfl : u = u' := nI_inj u2
            obtain ⟨x, x1, x2, x3⟩ := cT_open h u1 u3 u4
            iterate 4 (refine kX_one rfl ?_)
            refine kX_ialdV rfl rfl (by decide) (u) (by first | rfl | decide) (by omega) (x2) ?_
            iterate 1 (refine kX_one rfl ?_)
            refine kX_iastN rfl rfl (by decide) (x) (by first | rfl | decide) (by omega) ?_
            refine kX_st (va_up σ 22 (upd LV' x 0)) ?_ ?_
            · funext c; unfold  va_up; repeat' split
              all_goals first | rfl | omega | (subst_vars; rfl) | (funext j; unfold upd; repeat' split; all_goals first | rfl | omega | (subst_vars; rfl))
            iterate 4 (refine kX_one rfl ?_)
            refine kX_ialdN rfl rfl (by decide) (u) (by first | rfl | decide) (by omega) ?_
            refine kX_cal (mc_has L xs (d + 1) (va_up σ 22 (upd LV' x 0)) n _ hn h.2.1) rfl (Or.inr rfl) rfl rfl rfl (fun r1 σ1 q1 => ?_)
            obtain ⟨rfl, rfl⟩ := q1
            repeat refine kX_one rfl ?_
            refine kX_if (fun q3 => ?_) (fun q3 => ?_)
            · exact k84 _
            · obtain ⟨y, y1, y2⟩ := isB_ne.mp (qeqF q3)
              have y2 : σ 4 u = nI y := y2
              iterate 4 (refine kX_one rfl ?_)
              refine kX_ialdV rfl rfl (by decide) (u) (by first | rfl | decide) (by omega) (y2) ?_
              iterate 1 (refine kX_one rfl ?_)
              refine kX_iastN rfl rfl (by decide) (y) (by first | rfl | decide) (by omega) ?_
              refine kX_st (va_up σ 22 (upd (upd LV' x 0) y 0)) ?_ (k84 _)
              funext c; unfold  va_up; repeat' split
              all_goals first | rfl | omega | (subst_vars; rfl) | (funext j; unfold upd; repeat' split; all_goals first | rfl | omega | (subst_vars; rfl))
          · iterate 1 (refine kX_one rfl ?_)
            exact k84 LV'
      iterate 1 (refine kX_one rfl ?_)
      repeat refine kX_one rfl ?_
      refine kX_ifF (decide_eq_false (nI_pos (by omega))) ?_
      iterate 2 (refine kX_one rfl ?_)
      refine kX_getN rfl rfl (hEv) rfl ?_
      refine kX_top (y := nI t) (by rw [up_ne (by omega)]; exact hte) ?_
      repeat refine kX_one rfl ?_
      refine kX_if (fun q => ?_) (fun q => ?_)
      · exact k35 LV
      · iterate 3 (refine kX_one rfl ?_)
        refine kX_iastN rfl rfl (by decide) (u) (by first | rfl | decide) (by omega) ?_
        refine kX_st (va_up σ 22 (upd LV u 0)) ?_ (k35 _)
        funext c; unfold  va_up; repeat' split
        all_goals first | rfl | omega | (subst_vars; rfl) | (funext j; unfold upd; repeat' split; all_goals first | rfl | omega | (subst_vars; rfl))
  iterate 2 (refine kX_one rfl ?_)
  refine kX_cal (kX_fill (T := kT) L xs (d + 1) (-1) σ (a := 22) (n := 200) (g0 := fun _ => 0) rfl (by decide)) rfl (Or.inr rfl) rfl rfl rfl (fun r1 σ1 q1 => ?_)
  obtain ⟨rfl, rfl⟩ := q1
  iterate 1 (refine kX_one rfl ?_)
  refine kX_getN rfl rfl (hEv) rfl ?_
  refine kX_top (y := nI t) (by rw [up_ne (by omega)]; exact hte) ?_
  iterate 2 (refine kX_one rfl ?_)
  refine kX_top (h.2.1) ?_
  iterate 3 (refine kX_one rfl ?_)
  refine kX_top (y := nI t) (min_ok ht hn) ?_
  iterate 1 (refine kX_one rfl ?_)
  have := loop (t + 1, fun j => if j < 200 then -1 else σ 22 j) ht
  dsimp only at this
  rw [nI_pred] at this
  exact kX_lv _ rfl rfl rfl this
set_option maxRecDepth 100000 in
set_option maxHeartbeats 4000000 in
theorem mc_levelOf (L : Nat) (xs : Nat → Int32) (d : Nat) (σ : kS) (n r k u m : Nat) (h : cT σ n) (hr : r < 4) (hk : k < 6) (hu : u < n) (hm : m ≤ 6) (hbc : σ (28 + 35 * r + 5 * k) 4 = nI m) : kXM kT L xs (d + 3) 43 [.ref (28 + 35 * r + 5 * k), .ref 1, .ref 22, .int (nI u)] σ (fun q σ' => (∃ x, q = some (.int x)) ∧ σ = σ') := by
  have hn := h.1
  have hEv := kT_ev hr hk
  have hE1 := kT_e1 (i := 1) hr hk (Or.inl rfl)
  generalize ha : 28 + 35 * r + 5 * k = a at *
  unfold kXM
  have loop : ∀ j : Nat, j ≤ m → kX kT L xs (d + 3) 43 48 [(4, .int (nI j)), (0, .ref a), (1, .ref 1), (2, .ref 22), (3, .int (nI u))] [] σ (fun q σ' => (∃ x, q = some (.int x)) ∧ σ = σ') := by
    refine kX_while (fun j : Nat => [(4, .int (nI j)), (0, .ref a), (1, .ref 1), (2, .ref 22), (3, .int (nI u))]) (fun _ => σ) (fun j => j ≤ m) (fun j => m - j) ?_
    intro j hj ih
    iterate 2 (refine kX_one rfl ?_)
    refine kX_getN rfl rfl (hEv) rfl ?_
    refine kX_top (hbc) ?_
    repeat refine kX_one rfl ?_
    refine kX_if (fun q => ?_) (fun q => ?_)
    · repeat refine kX_one rfl ?_
      refine kX_ret (i := .ireturn) (len := 1) rfl (Or.inr rfl) rfl (⟨⟨_, rfl⟩, rfl⟩)
    · have q := qgeF q j m
      have k88 : kX kT L xs (d + 3) 43 88 [(4, .int (nI j)), (0, .ref a), (1, .ref 1), (2, .ref 22), (3, .int (nI u))] [] σ (fun q σ' => (∃ x, q = some (.int x)) ∧ σ = σ') := by
        iterate 2 (refine kX_one rfl ?_)
        have := ih (j + 1) q (by omega)
        rw [← nI_1] at this
        exact kX_lv _ rfl rfl rfl this
      iterate 3 (refine kX_one rfl ?_)
      refine kX_ialdN rfl rfl (by decide) (u) (by first | rfl | decide) (by omega) ?_
      iterate 1 (refine kX_one rfl ?_)
      repeat refine kX_one rfl ?_
      refine kX_if (fun q2 => ?_) (fun q2 => ?_)
      · exact k88
      · iterate 1 (refine kX_one rfl ?_)
        refine kX_getN rfl rfl (hEv) rfl ?_
        iterate 1 (refine kX_one rfl ?_)
        refine kX_ialdN rfl (hE1) (by decide) (j) (by first | rfl | decide) (by omega) ?_
        iterate 3 (refine kX_one rfl ?_)
        refine kX_ialdN rfl rfl (by decide) (u) (by first | rfl | decide) (by omega) ?_
        repeat refine kX_one rfl ?_
        refine kX_if (fun q3 => ?_) (fun q3 => ?_)
        · exact k88
        · repeat refine kX_one rfl ?_
          refine kX_ret (i := .ireturn) (len := 1) rfl (Or.inr rfl) rfl (⟨⟨_, rfl⟩, rfl⟩)
  iterate 2 (refine kX_one rfl ?_)
  refine kX_cal (mc_isOpen L xs d σ n (nI u) hn h.2.1) rfl (Or.inr rfl) rfl rfl rfl (fun r1 σ1 q1 => ?_)
  obtain ⟨rfl, rfl⟩ := q1
  repeat refine kX_one rfl ?_
  refine kX_if (fun q => ?_) (fun q => ?_)
  · iterate 2 (refine kX_one rfl ?_)
    exact kX_lv _ rfl rfl rfl (loop 0 (Nat.zero_le _))
  · obtain ⟨u', u1, u2, u3, u4⟩ := isB_ne.mp (qeqF q)
    obtain rfl : u = u' := nI_inj u2
    obtain ⟨x, x1, x2, x3⟩ := cT_open h u1 u3 u4
    iterate 3 (refine kX_one rfl ?_)
    refine kX_ialdN rfl rfl (by decide) (u) (by first | rfl | decide) (by omega) ?_
    iterate 5 (refine kX_one rfl ?_)
    refine kX_ialdV rfl rfl (by decide) (u) (by first | rfl | decide) (by omega) (x2) ?_
    refine kX_ialdN rfl rfl (by decide) (x) (by first | rfl | decide) (by omega) ?_
    iterate 2 (refine kX_one rfl ?_)
    refine kX_cal (mc_has L xs (d + 1) σ n _ hn h.2.1) rfl (Or.inr rfl) rfl rfl rfl (fun r1 σ1 q1 => ?_)
    obtain ⟨rfl, rfl⟩ := q1
    repeat refine kX_one rfl ?_
    refine kX_if (fun q2 => ?_) (fun q2 => ?_)
    · repeat refine kX_one rfl ?_
      refine kX_ret (i := .ireturn) (len := 1) rfl (Or.inr rfl) rfl (⟨⟨_, rfl⟩, rfl⟩)
    · obtain ⟨y, y1, y2⟩ := isB_ne.mp (qeqF q2)
      have y2 : σ 4 u = nI y := y2
      iterate 2 (refine kX_one rfl ?_)
      refine kX_ialdN rfl rfl (by decide) (y) (y2) (by omega) ?_
      repeat refine kX_one rfl ?_
      refine kX_ret (i := .ireturn) (len := 1) rfl (Or.inr rfl) rfl (⟨⟨_, rfl⟩, rfl⟩)
end
section
/-! the class: plan, newEvent, event -/
def plF (σ τ : kS) (a : Nat) : Prop := (∀ c, c ≠ 22 → c ≠ a → c ≠ a + 3 → c ≠ a + 4 → τ c = σ c) ∧ ∀ j, j ≠ 7 → τ a j = σ a j
def plJ (τ : kS) (a n q m : Nat) : Prop := q ≤ 24 ∧ τ a 7 = nI q ∧ tL n (τ (a + 3)) q ∧ ∀ j, j < m → ∃ f, f ≤ 24 ∧ τ (a + 4) j = nI f
set_option maxRecDepth 100000 in
set_option maxHeartbeats 4000000 in
theorem mc_plan (L : Nat) (xs : Nat → Int32) (d : Nat) (σ : kS) (n r k t m : Nat) (h : cT σ n) (hr : r < 4) (hk : k < 6) (ht : t < n) (hm : m ≤ 6) (hte : σ (28 + 35 * r + 5 * k) 1 = nI t) (hbc : σ (28 + 35 * r + 5 * k) 4 = nI m) : kXM kT L xs (d + 4) 41 [.ref (28 + 35 * r + 5 * k), .ref 1, .ref 22] σ (fun q σ' => q = none ∧ ∃ p, plF σ σ' (28 + 35 * r + 5 * k) ∧ plJ σ' (28 + 35 * r + 5 * k) n p (m + 1)) := by
  have hn := h.1
  unfold kXM
  iterate 3 (refine kX_one rfl ?_)
  refine kX_cal (mc_markParts L xs d σ n r k t h hr hk ht hte) rfl (Or.inr rfl) rfl (jcall_v rfl rfl rfl (kT_ev hr hk) rfl rfl) rfl (fun r1 σ1 q1 => ?_)
  obtain ⟨rfl, LV, rfl⟩ := q1
  have hlev : ∀ LV u, u < n → kXM kT L xs (d + 3) 43 [.ref (28 + 35 * r + 5 * k), .ref 1, .ref 22, .int (nI u)] (va_up σ 22 LV) (fun q σ' => (∃ x, q = some (.int x)) ∧ va_up σ 22 LV = σ') := fun LV u hu => mc_levelOf L xs d (va_up σ 22 LV) n r k u m (cT_eq rfl rfl (fun _ _ => ⟨rfl, rfl, rfl, rfl, rfl, rfl⟩) h) hr hk hu hm (by rw [up_ne (by omega)]; exact hbc)
  have hEv := kT_ev hr hk
  have hE3 := (kT_e3 hr hk).1
  have hE4 := (kT_e3 hr hk).2
  generalize ha : 28 + 35 * r + 5 * k = a at *
  have haa : 28 ≤ a ∧ a + 5 ≤ 163 := by omega
  have loop3 : ∀ at' : Nat, at' ≤ m → (∀ τ q, plF σ τ a → plJ τ a n q (at' + 1) → kX kT L xs (d + 4) 41 137 [(3, .int (nI at')), (0, .ref a), (1, .ref 1), (2, .ref 22)] [] τ (fun q σ' => q = none ∧ ∃ p, plF σ σ' a ∧ plJ σ' a n p (m + 1))) → ∀ q : Nat × kS × Nat, (q.1 ≤ n ∧ plF σ q.2.1 a ∧ plJ q.2.1 a n q.2.2 (at' + 1)) → kX kT L xs (d + 4) 41 75 [(4, .int (nI q.1)), (3, .int (nI at')), (0, .ref a), (1, .ref 1), (2, .ref 22)] [] q.2.1 (fun q σ' => q = none ∧ ∃ p, plF σ σ' a ∧ plJ σ' a n p (m + 1)) := by
    intro at' hat he
    refine kX_while (fun q : Nat × kS × Nat => [(4, .int (nI q.1)), (3, .int (nI at')), (0, .ref a), (1, .ref 1), (2, .ref 22)]) (fun q => q.2.1) _ (fun q => n - q.1) ?_
    rintro ⟨u, τ, p⟩ ⟨i1, i2, i3⟩ ih
    dsimp only at i1 i2 i3 ih ⊢
    obtain ⟨p1, p2, p3, p4⟩ := i3
    have k137 : kX kT L xs (d + 4) 41 137 [(4, .int (nI u)), (3, .int (nI at')), (0, .ref a), (1, .ref 1), (2, .ref 22)] [] τ (fun q σ' => q = none ∧ ∃ p, plF σ σ' a ∧ plJ σ' a n p (m + 1)) := kX_lv _ rfl rfl rfl (he τ p i2 ⟨p1, p2, p3, p4⟩)
    have etm : τ a 1 = nI t := (i2.2 _ (by decide)).trans hte
    have ecn : τ 1 11 = nI n := by
      rw [i2.1 1 (by decide) (by omega) (by omega) (by omega)]
      exact h.2.1
    iterate 2 (refine kX_one rfl ?_)
    refine kX_getN rfl rfl (hEv) rfl ?_
    refine kX_top (etm) ?_
    repeat refine kX_one rfl ?_
    refine kX_if (fun q => ?_) (fun q => ?_)
    · exact k137
    · have q := qgtF q u t
      iterate 3 (refine kX_one rfl ?_)
      refine kX_top (ecn) ?_
      repeat refine kX_one rfl ?_
      refine kX_if (fun q2 => ?_) (fun q2 => ?_)
      · exact k137
      · have q2 := qgeF q2 u n
        iterate 1 (refine kX_one rfl ?_)
        refine kX_getN rfl rfl (hEv) rfl ?_
        refine kX_top (p2) ?_
        iterate 1 (refine kX_one rfl ?_)
        repeat refine kX_one rfl ?_
        refine kX_if (fun q3 => ?_) (fun q3 => ?_)
        · exact k137
        · have q3 := qgeF q3 p 24
          have k131 : ∀ τ' p', plF σ τ' a → plJ τ' a n p' (at' + 1) → kX kT L xs (d + 4) 41 131 [(4, .int (nI u)), (3, .int (nI at')), (0, .ref a), (1, .ref 1), (2, .ref 22)] [] τ' (fun q σ' => q = none ∧ ∃ p, plF σ σ' a ∧ plJ σ' a n p (m + 1)) := by
            intro τ' p' x1 x2
            iterate 2 (refine kX_one rfl ?_)
            have := ih (u + 1, τ', p') ⟨q2, x1, x2⟩ (by simp only; omega)
            dsimp only at this
            rw [← nI_1] at this
            exact kX_lv _ rfl rfl rfl this
          iterate 2 (refine kX_one rfl ?_)
          refine kX_ialdN rfl rfl (by decide) (u) (by first | rfl | decide) (by omega) ?_
          iterate 1 (refine kX_one rfl ?_)
          repeat refine kX_one rfl ?_
          refine kX_if (fun q4 => ?_) (fun q4 => ?_)
          · exact k131 τ p i2 ⟨p1, p2, p3, p4⟩
          · iterate 1 (refine kX_one rfl ?_)
            refine kX_getN rfl rfl (hEv) rfl ?_
            iterate 1 (refine kX_one rfl ?_)
            refine kX_getN rfl rfl (hEv) rfl ?_
            refine kX_top (p2) ?_
            iterate 1 (refine kX_one rfl ?_)
            refine kX_iastN rfl (hE3) (by decide) (p) (by first | rfl | decide) (q3) ?_
            iterate 2 (refine kX_one rfl ?_)
            refine kX_getN rfl rfl (hEv) rfl ?_
            refine kX_top (y := nI p) (by rw [up_ne (by omega)]; exact p2) ?_
            iterate 2 (refine kX_one rfl ?_)
            refine kX_putN rfl rfl (hEv) rfl (rfl) rfl ?_
            refine k131 _ (p + 1) ⟨fun c x1 x2 x3 x4 => ?_, fun j hj => ?_⟩ ⟨by omega, ?_, ?_, ?_⟩
            · rw [up_ne x2, up_ne x3]
              exact i2.1 c x1 x2 x3 x4
            · rw [up_eq, up_ne (by omega)]
              exact (pk_un hj).trans (i2.2 j hj)
            · rw [up_eq, ← nI_1]
              exact pk_us
            · rw [up_ne (by omega), up_eq]
              exact tL_up p3 q2
            · rw [up_ne (by omega), up_ne (by omega)]
              exact p4
  have loop2 : ∀ q : Nat × kS × Nat, (q.1 ≤ m + 1 ∧ plF σ q.2.1 a ∧ plJ q.2.1 a n q.2.2 q.1) → kX kT L xs (d + 4) 41 54 [(3, .int (nI q.1)), (0, .ref a), (1, .ref 1), (2, .ref 22)] [] q.2.1 (fun q σ' => q = none ∧ ∃ p, plF σ σ' a ∧ plJ σ' a n p (m + 1)) := by
    refine kX_while (fun q : Nat × kS × Nat => [(3, .int (nI q.1)), (0, .ref a), (1, .ref 1), (2, .ref 22)]) (fun q => q.2.1) _ (fun q => m + 1 - q.1) ?_
    rintro ⟨at', τ, p⟩ ⟨i1, i2, p1, p2, p3, p4⟩ ih
    dsimp only at i1 i2 p1 p2 p3 p4 ih ⊢
    have ebc : τ a 4 = nI m := (i2.2 _ (by decide)).trans hbc
    iterate 2 (refine kX_one rfl ?_)
    refine kX_getN rfl rfl (hEv) rfl ?_
    refine kX_top (ebc) ?_
    repeat refine kX_one rfl ?_
    refine kX_if (fun q => ?_) (fun q => ?_)
    · have q := qgt q at' m
      obtain rfl : at' = m + 1 := by omega
      refine kX_ret (i := .return_) (len := 1) rfl (Or.inr rfl) rfl (⟨rfl, p, i2, p1, p2, p3, p4⟩)
    · have q := qgtF q at' m
      iterate 1 (refine kX_one rfl ?_)
      refine kX_getN rfl rfl (hEv) rfl ?_
      iterate 2 (refine kX_one rfl ?_)
      refine kX_getN rfl rfl (hEv) rfl ?_
      refine kX_top (p2) ?_
      refine kX_iastN rfl (hE4) (by decide) (at') (by first | rfl | decide) (by omega) ?_
      iterate 2 (refine kX_one rfl ?_)
      refine kX_lv _ rfl rfl rfl (loop3 at' q (fun τ' p' x1 x2 => ?_) (0, va_up τ (a + 4) (upd (τ (a + 4)) at' (nI p)), p) ⟨Nat.zero_le _, ⟨fun c x1 x2 x3 x4 => ?_, fun j hj => ?_⟩, p1, ?_, ?_, fun j hj => ?_⟩)
      · iterate 2 (refine kX_one rfl ?_)
        have := ih (at' + 1, τ', p') ⟨by simp only; omega, x1, x2⟩ (by simp only; omega)
        dsimp only at this
        rw [← nI_1] at this
        exact kX_lv _ rfl rfl rfl this
      · simp only
        rw [up_ne x4]
        exact i2.1 c x1 x2 x3 x4
      · simp only
        rw [up_ne (by omega)]
        exact i2.2 j hj
      · simp only
        rw [up_ne (by omega)]
        exact p2
      · simp only
        rw [up_ne (by omega)]
        exact p3
      · simp only
        rw [up_eq]
        by_cases e : j = at'
        · subst e
          exact ⟨p, p1, pk_us⟩
        · rw [pk_un e]
          exact p4 j (by omega)
  have loop1 : ∀ q : Nat × (Nat → Int32), q.1 ≤ n → kX kT L xs (d + 4) 41 8 [(3, .int (nI q.1)), (0, .ref a), (1, .ref 1), (2, .ref 22)] [] (va_up σ 22 q.2) (fun q σ' => q = none ∧ ∃ p, plF σ σ' a ∧ plJ σ' a n p (m + 1)) := by
    refine kX_while (fun q : Nat × (Nat → Int32) => [(3, .int (nI q.1)), (0, .ref a), (1, .ref 1), (2, .ref 22)]) (fun q => va_up σ 22 q.2) (fun q => q.1 ≤ n) (fun q => n - q.1) ?_
    rintro ⟨u, LV⟩ i1 ih
    dsimp only at i1 ih ⊢
    have k47 : kX kT L xs (d + 4) 41 47 [(3, .int (nI u)), (0, .ref a), (1, .ref 1), (2, .ref 22)] [] (va_up σ 22 LV) (fun q σ' => q = none ∧ ∃ p, plF σ σ' a ∧ plJ σ' a n p (m + 1)) := by
      iterate 2 (refine kX_one rfl ?_)
      refine kX_putN rfl rfl (hEv) rfl (rfl) rfl ?_
      iterate 2 (refine kX_one rfl ?_)
      refine kX_lv _ rfl rfl rfl (loop2 (0, va_up (va_up σ 22 LV) a (upd (va_up σ 22 LV a) 7 (Int32.ofInt 0)), 0) ⟨Nat.zero_le _, ⟨fun c x1 x2 x3 x4 => ?_, fun j hj => ?_⟩, Nat.zero_le _, ?_, fun j hj => absurd hj (Nat.not_lt_zero j), fun j hj => absurd hj (Nat.not_lt_zero j)⟩)
      · simp only
        rw [up_ne x2, up_ne x1]
      · simp only
        rw [up_eq, up_ne (by omega)]
        exact pk_un hj
      · simp only
        rw [up_eq]
        rfl
    iterate 2 (refine kX_one rfl ?_)
    refine kX_getN rfl rfl (hEv) rfl ?_
    refine kX_top (y := nI t) (by rw [up_ne (by omega)]; exact hte) ?_
    repeat refine kX_one rfl ?_
    refine kX_if (fun q => ?_) (fun q => ?_)
    · exact k47
    · iterate 3 (refine kX_one rfl ?_)
      refine kX_top (h.2.1) ?_
      repeat refine kX_one rfl ?_
      refine kX_if (fun q2 => ?_) (fun q2 => ?_)
      · exact k47
      · have q2 := qgeF q2 u n
        have k41 : ∀ LV', kX kT L xs (d + 4) 41 41 [(3, .int (nI u)), (0, .ref a), (1, .ref 1), (2, .ref 22)] [] (va_up σ 22 LV') (fun q σ' => q = none ∧ ∃ p, plF σ σ' a ∧ plJ σ' a n p (m + 1)) := by
          intro LV'
          iterate 2 (refine kX_one rfl ?_)
          have := ih (u + 1, LV') q2 (by simp only; omega)
          dsimp only at this
          rw [← nI_1] at this
          exact kX_lv _ rfl rfl rfl this
        iterate 2 (refine kX_one rfl ?_)
        refine kX_ialdN rfl rfl (by decide) (u) (by first | rfl | decide) (by omega) ?_
        iterate 1 (refine kX_one rfl ?_)
        repeat refine kX_one rfl ?_
        refine kX_if (fun q3 => ?_) (fun q3 => ?_)
        · exact k41 LV
        · iterate 6 (refine kX_one rfl ?_)
          refine kX_cal (hlev LV u q2) rfl (Or.inr rfl) rfl (jcall_v rfl rfl rfl (hEv) rfl rfl) rfl (fun r1 σ1 q1 => ?_)
          obtain ⟨⟨y, rfl⟩, rfl⟩ := q1
          refine kX_iastN rfl rfl (by decide) (u) (by first | rfl | decide) (by omega) ?_
          refine kX_st (va_up σ 22 (upd LV u y)) ?_ (k41 _)
          funext c; unfold  va_up; repeat' split
          all_goals first | rfl | omega | (subst_vars; rfl) | (funext j; unfold upd; repeat' split; all_goals first | rfl | omega | (subst_vars; rfl))
  iterate 2 (refine kX_one rfl ?_)
  exact kX_lv _ rfl rfl rfl (loop1 (0, LV) (Nat.zero_le _))
set_option maxRecDepth 100000 in
set_option maxHeartbeats 4000000 in
theorem mc_newEvent (L : Nat) (xs : Nat → Int32) (d : Nat) (σ : kS) (n R S C r e t : Nat) (b : Int32) (h : cJ σ n R S C) (hr : r < R) (he : e < 6) (hec : σ (23 + 35 * r) 5 = nI e) (ht : t < n) (hb : b = 0 ∨ b = 1) : kXM kT L xs (d + 5) 9 [.ref 13, .ref (23 + 35 * r), .int b, .int (nI t)] σ (fun q σ' => (∃ x, q = some (.int x)) ∧ cAfter σ σ' R) := by
  have hT := h.1
  have hR4 := h.2.1.1
  have hr4 : r < 4 := by omega
  obtain ⟨v, e', v1, e1, v2, e2, so1, ev1⟩ := h.2.1.2.2 r hr
  obtain rfl : e = e' := nI_inj (hec.symm.trans e2)
  have hEv := kT_ev hr4 he
  unfold kXM
  iterate 1 (refine kX_one rfl ?_)
  refine kX_getN rfl rfl (kT_ro hr4) rfl ?_
  refine kX_top (hec) ?_
  iterate 1 (refine kX_one rfl ?_)
  repeat refine kX_one rfl ?_
  refine kX_if (fun q => ?_) (fun q => ?_)
  · iterate 1 (refine kX_one rfl ?_)
    refine kX_getN rfl rfl (kT_ro hr4) rfl ?_
    iterate 1 (refine kX_one rfl ?_)
    refine kX_getN rfl rfl (kT_ro hr4) rfl ?_
    refine kX_top (hec) ?_
    refine kX_aaldN rfl (kT_re hr4) (by decide) (by decide) (by decide) (e) (by first | rfl | decide) (he) (ev_at he) ?_
    iterate 3 (refine kX_one rfl ?_)
    refine kX_putN rfl rfl hEv rfl (by rcases hb with rfl | rfl <;> rfl) rfl ?_
    iterate 2 (refine kX_one rfl ?_)
    refine kX_putN rfl rfl (hEv) rfl (rfl) rfl ?_
    iterate 2 (refine kX_one rfl ?_)
    refine kX_putN rfl rfl (hEv) rfl (rfl) rfl ?_
    iterate 2 (refine kX_one rfl ?_)
    refine kX_putN rfl rfl (hEv) rfl (rfl) rfl ?_
    refine kX_st (va_up σ (28 + 35 * r + 5 * e) (upd (upd (upd (upd (σ (28 + 35 * r + 5 * e)) 0 b) 1 (nI t)) 4 0) 7 0)) ?_ ?_
    · rw [kup_up, kup_up, kup_up]
      simp only [up_eq]
      rfl
    have hρa : va_up σ (28 + 35 * r + 5 * e) (upd (upd (upd (upd (σ (28 + 35 * r + 5 * e)) 0 b) 1 (nI t)) 4 0) 7 0) (28 + 35 * r + 5 * e) = upd (upd (upd (upd (σ (28 + 35 * r + 5 * e)) 0 b) 1 (nI t)) 4 0) 7 0 := up_eq
    have hρo : ∀ c, c ≠ 28 + 35 * r + 5 * e → va_up σ (28 + 35 * r + 5 * e) (upd (upd (upd (upd (σ (28 + 35 * r + 5 * e)) 0 b) 1 (nI t)) 4 0) 7 0) c = σ c := fun c hc => up_ne hc
    generalize va_up σ (28 + 35 * r + 5 * e) (upd (upd (upd (upd (σ (28 + 35 * r + 5 * e)) 0 b) 1 (nI t)) 4 0) 7 0) = ρ at *
    have hte : ρ (28 + 35 * r + 5 * e) 1 = nI t := by rw [hρa]; rfl
    have hbc : ρ (28 + 35 * r + 5 * e) 4 = 0 := by rw [hρa]; rfl
    have hpc : ρ (28 + 35 * r + 5 * e) 7 = 0 := by rw [hρa]; rfl
    have hTρ : cT ρ n := by
      refine cT_eq (by rw [hρo 1 (by omega)]) (hρo _ (by omega)) (fun u _ => ?_) hT
      rw [hρo 2 (by omega), hρo 3 (by omega), hρo 4 (by omega), hρo 8 (by omega), hρo 12 (by omega), hρo 6 (by omega)]
      exact ⟨rfl, rfl, rfl, rfl, rfl, rfl⟩
    have k71 : ∀ τ, (∀ c, c ≠ 20 → c ≠ 21 → c ≠ 22 → c ≠ 26 + 35 * r → (c < 28 + 35 * r + 5 * e ∨ 28 + 35 * r + 5 * e + 5 ≤ c) → τ c = σ c) → cE τ n (28 + 35 * r + 5 * e) → kX kT L xs (d + 5) 9 71 [(4, .ref (28 + 35 * r + 5 * e)), (0, .ref 13), (1, .ref (23 + 35 * r)), (2, .int b), (3, .int (nI t))] [] τ (fun q σ' => (∃ x, q = some (.int x)) ∧ cAfter σ σ' R) := by
      intro τ hτ hE
      have e23 : τ (23 + 35 * r) = σ (23 + 35 * r) := hτ _ (by omega) (by omega) (by omega) (by omega) (by omega)
      iterate 2 (refine kX_one rfl ?_)
      refine kX_getN rfl rfl (kT_ro hr4) rfl ?_
      refine kX_top (y := nI e) (by rw [e23]; exact hec) ?_
      iterate 2 (refine kX_one rfl ?_)
      refine kX_putN rfl rfl (kT_ro hr4) rfl (rfl) rfl ?_
      iterate 1 (refine kX_one rfl ?_)
      refine kX_getN rfl rfl (kT_ro hr4) rfl ?_
      have hω : ∀ c, c ≠ 23 + 35 * r → va_up τ (23 + 35 * r) (upd (τ (23 + 35 * r)) 5 (nI e + Int32.ofInt 1)) c = τ c := fun c hc => up_ne hc
      have hωr : va_up τ (23 + 35 * r) (upd (τ (23 + 35 * r)) 5 (nI e + Int32.ofInt 1)) (23 + 35 * r) = upd (σ (23 + 35 * r)) 5 (nI (e + 1)) := by
        rw [up_eq, e23, ← nI_1]
        rfl
      refine kX_ret (i := .ireturn) (len := 1) rfl (Or.inr rfl) rfl ⟨⟨_, rfl⟩, ?_⟩
      show cAfter σ (va_up τ (23 + 35 * r) (upd (τ (23 + 35 * r)) 5 (nI e + Int32.ofInt 1))) R
      generalize va_up τ (23 + 35 * r) (upd (τ (23 + 35 * r)) 5 (nI e + Int32.ofInt 1)) = ω at *
      refine ⟨fun c hc => ?_, n, S, C, cJ_lo h (fun c hc => ?_) (fun j _ => ?_) ⟨hR4, ?_, fun r' hr' => ?_⟩ (Nat.le_refl _)⟩
      · rw [hω c (by omega)]
        exact hτ c (by omega) (by omega) (by omega) (by omega) (by omega)
      · rw [hω c (by omega)]
        exact hτ c (by omega) (by omega) (by omega) (by omega) (by omega)
      · rw [hω 13 (by omega), hτ 13 (by decide) (by decide) (by decide) (by omega) (by omega)]
      · rw [hω 13 (by omega), hτ 13 (by decide) (by decide) (by decide) (by omega) (by omega)]
        exact h.2.1.2.1
      · by_cases q : r' = r
        · subst q
          refine ⟨v, e + 1, v1, by omega, ?_, ?_, ?_, fun k hk => ?_⟩
          · rw [hωr]
            exact v2
          · rw [hωr]
            exact pk_us
          · rw [hω (25 + 35 * r') (by omega), hω (24 + 35 * r') (by omega), hτ (25 + 35 * r') (by omega) (by omega) (by omega) (by omega) (by omega), hτ (24 + 35 * r') (by omega) (by omega) (by omega) (by omega) (by omega)]
            exact so1
          · by_cases q : k = e
            · subst q
              exact cE_up (Nat.le_refl _) (fun i hi => hω _ (by omega)) hE
            · exact cE_up (σ := σ) (Nat.le_refl _) (fun i hi => by
                rw [hω _ (by omega)]
                exact hτ _ (by omega) (by omega) (by omega) (by omega) (by omega)) (ev1 k (by omega))
        · exact cR1_eq (fun c c1 c2 => by
            rw [hω c (by omega)]
            exact hτ c (by omega) (by omega) (by omega) (by omega) (by omega)) (h.2.1.2.2 r' hr')
    iterate 1 (refine kX_one rfl ?_)
    repeat refine kX_one rfl ?_
    refine kX_if (fun q2 => ?_) (fun q2 => ?_)
    · refine kX_lv _ rfl rfl rfl (k71 ρ (fun c _ _ _ _ hc => hρo c (by omega)) ⟨t, 0, 0, ht, by omega, by omega, hte, hbc, hpc, fun j hj => absurd hj (Nat.not_lt_zero j), fun j hj => absurd hj (Nat.not_lt_zero j)⟩)
    · iterate 3 (refine kX_one rfl ?_)
      refine kX_cal (mc_bindIn L xs (d + 1) ρ n r e t v hTρ hr4 he ht v1 (by rw [hρo _ (by omega)]; exact v2) (fun j hj => ?_) hte hbc) rfl (Or.inr rfl) rfl rfl rfl (fun r1 τ1 q1 => ?_)
      · obtain ⟨so, s1, s2, -⟩ := so1 j hj
        exact ⟨so, s1, by rw [hρo _ (by omega)]; exact s2⟩
      · obtain ⟨rfl, ST, VS, m, ⟨f1, f2⟩, m1, m2, m3⟩ := q1
        have hτ1 : ∀ c, c ≠ 20 → c ≠ 21 → c ≠ 26 + 35 * r → c ≠ 28 + 35 * r + 5 * e → c ≠ 28 + 35 * r + 5 * e + 1 → c ≠ 28 + 35 * r + 5 * e + 2 → τ1 c = σ c := fun c x1 x2 x3 x4 x5 x6 => by
          rw [f1 c x3 x4 x5 x6]
          unfold lvU
          rw [up_ne x2, up_ne x1, hρo c x4]
        have hte1 : τ1 (28 + 35 * r + 5 * e) 1 = nI t := by
          rw [f2 _ (by decide)]
          unfold lvU
          rw [up_ne (by omega), up_ne (by omega)]
          exact hte
        have hT1 : cT τ1 n := by
          refine cT_eq (by rw [hτ1 1 (by decide) (by decide) (by omega) (by omega) (by omega) (by omega)]) (hτ1 _ (by decide) (by decide) (by omega) (by omega) (by omega) (by omega)) (fun u _ => ?_) hT
          rw [hτ1 2 (by decide) (by decide) (by omega) (by omega) (by omega) (by omega), hτ1 3 (by decide) (by decide) (by omega) (by omega) (by omega) (by omega), hτ1 4 (by decide) (by decide) (by omega) (by omega) (by omega) (by omega), hτ1 8 (by decide) (by decide) (by omega) (by omega) (by omega) (by omega), hτ1 12 (by decide) (by decide) (by omega) (by omega) (by omega) (by omega), hτ1 6 (by decide) (by decide) (by omega) (by omega) (by omega) (by omega)]
          exact ⟨rfl, rfl, rfl, rfl, rfl, rfl⟩
        iterate 5 (refine kX_one rfl ?_)
        refine kX_cal (mc_plan L xs d τ1 n r e t m hT1 hr4 he ht m1 hte1 m2) rfl (Or.inr rfl) rfl (jcall_v rfl rfl rfl (hEv) rfl rfl) rfl (fun r1 σ1 q1 => ?_)
        obtain ⟨rfl, p, ⟨g1, g2⟩, p1, p2, p3, p4⟩ := q1
        refine kX_lv _ rfl rfl rfl (k71 σ1 (fun c x1 x2 x3 x4 x5 => ?_) ⟨t, m, p, ht, m1, p1, (g2 _ (by decide)).trans hte1, (g2 _ (by decide)).trans m2, p2, fun j hj => ⟨?_, ?_, p4 (j + 1) (by omega)⟩, p3⟩)
        · rw [g1 c x3 (by omega) (by omega) (by omega)]
          exact hτ1 c x1 x2 x4 (by omega) (by omega) (by omega)
        · rw [g1 _ (by omega) (by omega) (by omega) (by omega)]
          exact (m3 j hj).1
        · rw [g1 _ (by omega) (by omega) (by omega) (by omega)]
          exact (m3 j hj).2
  · have q := qltF q e 6
    omega
set_option maxRecDepth 100000 in
set_option maxHeartbeats 4000000 in
theorem mk_event (L : Nat) (xs : Nat → Int32) (d : Nat) (σ : kS) (n R S C : Nat) (x b z : Int32) (hb : b = 0 ∨ b = 1) (h : cJ σ n R S C) : kXM kT L xs (d + 6) 116 [.ref 0, .int x, .int b, .int z] σ (fun r σ' => (∃ x, r = some (.int x)) ∧ cAfter σ σ' R) := by
  have hT := h.1
  have hn := hT.1
  have hR := h.2.1
  have hR4 := hR.1
  unfold kXM
  have k22 : kX kT L xs (d + 6) 116 22 (lv_args 0 [.ref 0, .int x, .int b, .int z]) [] σ (fun r σ' => (∃ x, r = some (.int x)) ∧ cAfter σ σ' R) := by
    repeat refine kX_one rfl ?_
    refine kX_ret (i := .ireturn) (len := 1) rfl (Or.inr rfl) rfl (⟨⟨_, rfl⟩, cAfter_same h⟩)
  iterate 3 (refine kX_one rfl ?_)
  refine kX_cal (mc_hasRole L xs (d + 4) σ R x hR4 hR.2.1) rfl (Or.inr rfl) rfl rfl rfl (fun r1 σ1 q1 => ?_)
  obtain ⟨rfl, rfl⟩ := q1
  repeat refine kX_one rfl ?_
  refine kX_if (fun q => ?_) (fun q => ?_)
  · exact k22
  · obtain ⟨r, hr, rfl⟩ := isB_ne.mp (qeqF q)
    have hr4 : r < 4 := by omega
    obtain ⟨v, e, v1, e1, v2, e2, so1, ev1⟩ := hR.2.2 r hr
    iterate 3 (refine kX_one rfl ?_)
    refine kX_cal (mc_has L xs (d + 4) σ n z hn hT.2.1) rfl (Or.inr rfl) rfl rfl rfl (fun r1 σ1 q1 => ?_)
    obtain ⟨rfl, rfl⟩ := q1
    repeat refine kX_one rfl ?_
    refine kX_if (fun q2 => ?_) (fun q2 => ?_)
    · obtain ⟨t, ht, rfl⟩ := isB_ne.mp (qne q2)
      iterate 4 (refine kX_one rfl ?_)
      refine kX_aaldN rfl (rfl) (by decide) (by decide) (by decide) (r) (by first | rfl | decide) (hr4) (ro_at hr4) ?_
      iterate 2 (refine kX_one rfl ?_)
      refine kX_getN rfl rfl (kT_ro hr4) rfl ?_
      repeat refine kX_one rfl ?_
      refine kX_if (fun q3 => ?_) (fun q3 => ?_)
      · iterate 1 (refine kX_one rfl ?_)
        refine kX_getN rfl rfl (kT_ro hr4) rfl ?_
        refine kX_top (e2) ?_
        iterate 1 (refine kX_one rfl ?_)
        repeat refine kX_one rfl ?_
        refine kX_if (fun q4 => ?_) (fun q4 => ?_)
        · have q4 := qlt q4 e 6
          iterate 5 (refine kX_one rfl ?_)
          refine kX_cal (mc_mayBeEvent L xs (d + 2) σ n R r t v b hT hR4 hr ht v1 v2) rfl (Or.inr rfl) rfl rfl rfl (fun r1 σ1 q1 => ?_)
          obtain ⟨hq, ST, VS, rfl⟩ := q1
          have hlv : ∀ c, c ≠ 20 → c ≠ 21 → lvU σ ST VS c = σ c := fun c x1 x2 => by
            unfold lvU
            rw [up_ne x2, up_ne x1]
          have h2 : cJ (lvU σ ST VS) n R S C := by
            refine cJ_lo h (fun c hc => hlv c (by omega) (by omega)) (fun j _ => by rw [hlv 13 (by decide) (by decide)]) ⟨hR4, by rw [hlv 13 (by decide) (by decide)]; exact hR.2.1, fun r' hr' => cR1_eq (fun c c1 c2 => hlv c (by omega) (by omega)) (hR.2.2 r' hr')⟩ (Nat.le_refl _)
          have hhi : cHi σ (lvU σ ST VS) := fun c hc => hlv c (by omega) (by omega)
          rcases hq with rfl | rfl
          · repeat refine kX_one rfl ?_
            refine kX_ret (i := .ireturn) (len := 1) rfl (Or.inr rfl) rfl (⟨⟨_, rfl⟩, hhi, n, S, C, h2⟩)
          · iterate 6 (refine kX_one rfl ?_)
            refine kX_cal (mc_newEvent L xs d (lvU σ ST VS) n R S C r e t b h2 hr q4 (by rw [hlv _ (by omega) (by omega)]; exact e2) ht hb) rfl (Or.inr rfl) rfl rfl rfl (fun r1 σ1 q1 => ?_)
            obtain ⟨⟨w, rfl⟩, hA⟩ := q1
            refine kX_ret (i := .ireturn) (len := 1) rfl (Or.inr rfl) rfl (⟨⟨_, rfl⟩, cHi_trans hhi hA.1, hA.2⟩)
        · repeat refine kX_one rfl ?_
          refine kX_ret (i := .ireturn) (len := 1) rfl (Or.inr rfl) rfl (⟨⟨_, rfl⟩, cAfter_same h⟩)
      · repeat refine kX_one rfl ?_
        refine kX_ret (i := .ireturn) (len := 1) rfl (Or.inr rfl) rfl (⟨⟨_, rfl⟩, cAfter_same h⟩)
    · exact k22
end
section
/-! the class: what an intruder has -/
def isK (K st : Nat) : Prop := (K = 186 ∧ st = 200) ∨ (K = 204 ∧ st = 776) ∨ (K = 213 ∧ st = 1352)
theorem isK_b {K st : Nat} (h : isK K st) : 186 ≤ K ∧ K + 9 ≤ 222 ∧ 200 ≤ st ∧ st + 576 ≤ 1928 := by
  rcases h with ⟨rfl, rfl⟩ | ⟨rfl, rfl⟩ | ⟨rfl, rfl⟩ <;> omega
theorem kT_kn {K st : Nat} (h : isK K st) : kT[K]? = some (.inr (4, [.ref 1, .int (nI st), .ref (K + 1), .int 0, .ref (K + 2), .ref (K + 3), .ref (K + 4), .int 0, .ref (K + 5), .ref (K + 6), .ref (K + 7), .ref (K + 8), .int 0, .int 0])) := by
  rcases h with ⟨rfl, rfl⟩ | ⟨rfl, rfl⟩ | ⟨rfl, rfl⟩ <;> rfl
theorem kT_k1 {K st : Nat} (h : isK K st) : kT[K + 1]? = some (.inl (0, 256, .inl (fun _ => 0))) := by
  rcases h with ⟨rfl, rfl⟩ | ⟨rfl, rfl⟩ | ⟨rfl, rfl⟩ <;> rfl
theorem kT_k2 {K st i : Nat} (h : isK K st) (hi : i = 2 ∨ i = 3 ∨ i = 4) : kT[K + i]? = some (.inl (0, 776, .inl (fun _ => 0))) := by
  rcases h with ⟨rfl, rfl⟩ | ⟨rfl, rfl⟩ | ⟨rfl, rfl⟩ <;> rcases hi with rfl | rfl | rfl <;> rfl
theorem kT_k5 {K st i : Nat} (h : isK K st) (hi : i = 5 ∨ i = 6) : kT[K + i]? = some (.inl (0, 1928, .inl (fun _ => 0))) := by
  rcases h with ⟨rfl, rfl⟩ | ⟨rfl, rfl⟩ | ⟨rfl, rfl⟩ <;> rcases hi with rfl | rfl <;> rfl
theorem kT_k7 {K st : Nat} (h : isK K st) : kT[K + 7]? = some (.inl (0, 200, .inl (fun _ => 0))) ∧ kT[K + 8]? = some (.inl (0, 576, .inl (fun _ => 0))) := by
  rcases h with ⟨rfl, rfl⟩ | ⟨rfl, rfl⟩ | ⟨rfl, rfl⟩ <;> exact ⟨rfl, rfl⟩
def nB (σ : kS) (K st n u : Nat) : Prop := isK K st ∧ n ≤ 200 ∧ u ≤ 576 ∧ σ 1 11 = nI n ∧ σ K 1 = nI st ∧ σ K 3 = nI u
def nR (σ : kS) (K : Nat) : Prop := ∃ ln, ln ≤ 776 ∧ σ K 7 = nI ln ∧ ∀ i, i < ln → ∃ g, g < 1928 ∧ σ (K + 2) i = nI g
/-- what the row's methods leave -/
def nP (σ τ : kS) (K : Nat) : Prop := (∀ c, c < K ∨ K + 9 ≤ c → τ c = σ c) ∧ τ (K + 1) = σ (K + 1) ∧ (∀ j, j ≠ 7 → j ≠ 13 → τ K j = σ K j) ∧ nR τ K
theorem nP_refl {σ : kS} {K : Nat} (h : nR σ K) : nP σ σ K := ⟨fun _ _ => rfl, rfl, fun _ _ _ => rfl, h⟩
theorem nP_trans {σ τ ρ : kS} {K : Nat} (h1 : nP σ τ K) (h2 : nP τ ρ K) : nP σ ρ K := ⟨fun c hc => (h2.1 c hc).trans (h1.1 c hc), h2.2.1.trans h1.2.1, fun j x1 x2 => (h2.2.2.1 j x1 x2).trans (h1.2.2.1 j x1 x2), h2.2.2.2⟩
theorem nB_P {σ τ : kS} {K st n u : Nat} (h : nB σ K st n u) (hP : nP σ τ K) : nB τ K st n u := by
  obtain ⟨h1, h2, h3, h4, h5, h6⟩ := h
  have := isK_b h1
  exact ⟨h1, h2, h3, by rw [hP.1 1 (by omega)]; exact h4, (hP.2.2.1 _ (by decide) (by decide)).trans h5, (hP.2.2.1 _ (by decide) (by decide)).trans h6⟩
/-- it is a TERM, or one of the intruder's own -/
def nH (n st u : Nat) (x : Int32) : Prop := isN x n ∨ ∃ g, st ≤ g ∧ g < st + u ∧ x = nI g
theorem nH_lt {n st u : Nat} {x : Int32} (hn : n ≤ 200) (hst : st + 576 ≤ 1928) (hu : u ≤ 576) (h : nH n st u x) : ∃ g, g < 1928 ∧ x = nI g := by
  rcases h with ⟨t, t1, t2⟩ | ⟨g, g1, g2, g3⟩
  · exact ⟨t, by omega, t2⟩
  · exact ⟨g, by omega, g3⟩
set_option maxRecDepth 100000 in
set_option maxHeartbeats 4000000 in
theorem mc_unn (L : Nat) (xs : Nat → Int32) (d : Nat) (σ : kS) (K st n u : Nat) (x : Int32) (h : nB σ K st n u) : kXM kT L xs (d + 1) 46 [.ref K, .int x] σ (fun r σ' => r = some (.int (isB (∃ g, st ≤ g ∧ g < st + u ∧ x = nI g))) ∧ σ = σ') := by
  obtain ⟨h1, h2, h3, h4, h5, h6⟩ := h
  have hb := isK_b h1
  have hlt : ∀ a : Nat, a < 100000 → (x < nI a ↔ x.toInt < a) := fun a ha => by rw [Int32.lt_iff_toInt_lt, nI_toInt (by omega)]
  unfold kXM
  iterate 2 (refine kX_one rfl ?_)
  refine kX_getN rfl rfl (kT_kn h1) rfl ?_
  refine kX_top (h5) ?_
  repeat refine kX_one rfl ?_
  refine kX_if (fun q => ?_) (fun q => ?_)
  · have q : x < nI st := of_decide_eq_true q
    repeat refine kX_one rfl ?_
    refine kX_ret (i := .ireturn) (len := 1) rfl (Or.inr rfl) rfl ⟨rF (fun z => ?_), rfl⟩
    obtain ⟨g, g1, g2, rfl⟩ := z
    rw [hlt st (by omega), nI_toInt (by omega)] at q
    omega
  · have q : ¬ x < nI st := of_decide_eq_false q
    rw [hlt st (by omega)] at q
    have hx0 : ¬ x < 0 := fun z => q (by
      rw [Int32.lt_iff_toInt_lt] at z
      have : (0 : Int32).toInt = 0 := rfl
      omega)
    obtain ⟨g, hg, rfl⟩ := nI_of hx0
    rw [nI_toInt hg] at q
    iterate 2 (refine kX_one rfl ?_)
    refine kX_getN rfl rfl (kT_kn h1) rfl ?_
    refine kX_top (h5) ?_
    iterate 1 (refine kX_one rfl ?_)
    refine kX_getN rfl rfl (kT_kn h1) rfl ?_
    refine kX_top (h6) ?_
    iterate 1 (refine kX_one rfl ?_)
    refine kX_top (nI_add st u) ?_
    repeat refine kX_one rfl ?_
    refine kX_if (fun q2 => ?_) (fun q2 => ?_)
    · have q2 := qge q2 g (st + u)
      repeat refine kX_one rfl ?_
      refine kX_ret (i := .ireturn) (len := 1) rfl (Or.inr rfl) rfl ⟨rF (fun z => ?_), rfl⟩
      obtain ⟨g', g1, g2, e⟩ := z
      have := nI_inj e
      omega
    · have q2 := qgeF q2 g (st + u)
      repeat refine kX_one rfl ?_
      refine kX_ret (i := .ireturn) (len := 1) rfl (Or.inr rfl) rfl (⟨rT ⟨g, by omega, q2, rfl⟩, rfl⟩)
set_option maxRecDepth 100000 in
set_option maxHeartbeats 4000000 in
theorem mc_kHas (L : Nat) (xs : Nat → Int32) (d : Nat) (σ : kS) (K st n u : Nat) (x : Int32) (h : nB σ K st n u) : kXM kT L xs (d + 1) 47 [.ref K, .int x] σ (fun r σ' => r = some (.int (isB (nH n st u x))) ∧ σ = σ') := by
  obtain ⟨h1, h2, h3, h4, h5, h6⟩ := h
  have hb := isK_b h1
  have hlt : ∀ a : Nat, a < 100000 → (x < nI a ↔ x.toInt < a) := fun a ha => by rw [Int32.lt_iff_toInt_lt, nI_toInt (by omega)]
  unfold kXM
  have k15 : ¬ isN x n → kX kT L xs (d + 1) 47 15 (lv_args 0 [.ref K, .int x]) [] σ (fun r σ' => r = some (.int (isB (nH n st u x))) ∧ σ = σ') := by
    intro hno
    iterate 2 (refine kX_one rfl ?_)
    refine kX_getN rfl rfl (kT_kn h1) rfl ?_
    refine kX_top (h5) ?_
    repeat refine kX_one rfl ?_
    refine kX_if (fun q => ?_) (fun q => ?_)
    · have q : x < nI st := of_decide_eq_true q
      repeat refine kX_one rfl ?_
      refine kX_ret (i := .ireturn) (len := 1) rfl (Or.inr rfl) rfl ⟨rF (fun z => ?_), rfl⟩
      rcases z with z | ⟨g, g1, g2, rfl⟩
      · exact hno z
      · rw [hlt st (by omega), nI_toInt (by omega)] at q
        omega
    · have q : ¬ x < nI st := of_decide_eq_false q
      rw [hlt st (by omega)] at q
      have hx0 : ¬ x < 0 := fun z => q (by
        rw [Int32.lt_iff_toInt_lt] at z
        have : (0 : Int32).toInt = 0 := rfl
        omega)
      obtain ⟨g, hg, rfl⟩ := nI_of hx0
      rw [nI_toInt hg] at q
      iterate 2 (refine kX_one rfl ?_)
      refine kX_getN rfl rfl (kT_kn h1) rfl ?_
      refine kX_top (h5) ?_
      iterate 1 (refine kX_one rfl ?_)
      refine kX_getN rfl rfl (kT_kn h1) rfl ?_
      refine kX_top (h6) ?_
      iterate 1 (refine kX_one rfl ?_)
      refine kX_top (nI_add st u) ?_
      repeat refine kX_one rfl ?_
      refine kX_if (fun q2 => ?_) (fun q2 => ?_)
      · have q2 := qge q2 g (st + u)
        repeat refine kX_one rfl ?_
        refine kX_ret (i := .ireturn) (len := 1) rfl (Or.inr rfl) rfl ⟨rF (fun z => ?_), rfl⟩
        rcases z with z | ⟨g', g1, g2, e⟩
        · exact hno z
        · have := nI_inj e
          omega
      · have q2 := qgeF q2 g (st + u)
        repeat refine kX_one rfl ?_
        refine kX_ret (i := .ireturn) (len := 1) rfl (Or.inr rfl) rfl (⟨rT (Or.inr ⟨g, by omega, q2, rfl⟩), rfl⟩)
  iterate 1 (refine kX_one rfl ?_)
  repeat refine kX_one rfl ?_
  refine kX_if (fun q => ?_) (fun q => ?_)
  · have q : x < 0 := of_decide_eq_true q
    refine k15 (fun z => ?_)
    obtain ⟨j, j1, rfl⟩ := z
    exact nI_pos (by omega) q
  · have q : ¬ x < 0 := of_decide_eq_false q
    obtain ⟨j, hj, rfl⟩ := nI_of q
    iterate 2 (refine kX_one rfl ?_)
    refine kX_getN rfl rfl (kT_kn h1) rfl ?_
    iterate 1 (refine kX_one rfl ?_)
    refine kX_top (h4) ?_
    repeat refine kX_one rfl ?_
    refine kX_if (fun q2 => ?_) (fun q2 => ?_)
    · have q2 := qlt q2 j n
      repeat refine kX_one rfl ?_
      refine kX_ret (i := .ireturn) (len := 1) rfl (Or.inr rfl) rfl (⟨rT (Or.inl ⟨j, q2, rfl⟩), rfl⟩)
    · have q2 := qltF q2 j n
      refine k15 (fun z => ?_)
      obtain ⟨j', j1, e⟩ := z
      have := nI_inj e
      omega
set_option maxRecDepth 100000 in
set_option maxHeartbeats 4000000 in
theorem mc_hasPriv (L : Nat) (xs : Nat → Int32) (d : Nat) (σ : kS) (K st n u : Nat) (x : Int32) (h : nB σ K st n u) : kXM kT L xs (d + 1) 54 [.ref K, .int x] σ (fun r σ' => (r = some (.int 0) ∨ r = some (.int 1)) ∧ σ = σ') := by
  obtain ⟨h1, h2, h3, h4, h5, h6⟩ := h
  unfold kXM
  have k44 : kX kT L xs (d + 1) 54 44 (lv_args 0 [.ref K, .int x]) [] σ (fun r σ' => (r = some (.int 0) ∨ r = some (.int 1)) ∧ σ = σ') := by
    repeat refine kX_one rfl ?_
    refine kX_ret (i := .ireturn) (len := 1) rfl (Or.inr rfl) rfl (⟨Or.inl rfl, rfl⟩)
  have k40 : kX kT L xs (d + 1) 54 40 (lv_args 0 [.ref K, .int x]) [] σ (fun r σ' => (r = some (.int 0) ∨ r = some (.int 1)) ∧ σ = σ') := by
    repeat refine kX_one rfl ?_
    refine kX_ret (i := .ireturn) (len := 1) rfl (Or.inr rfl) rfl (⟨Or.inr rfl, rfl⟩)
  iterate 1 (refine kX_one rfl ?_)
  repeat refine kX_one rfl ?_
  refine kX_if (fun q => ?_) (fun q => ?_)
  · exact k44
  · have q : ¬ x < 0 := of_decide_eq_false q
    obtain ⟨j, hj, rfl⟩ := nI_of q
    iterate 2 (refine kX_one rfl ?_)
    refine kX_getN rfl rfl (kT_kn h1) rfl ?_
    iterate 1 (refine kX_one rfl ?_)
    refine kX_top (h4) ?_
    repeat refine kX_one rfl ?_
    refine kX_if (fun q2 => ?_) (fun q2 => ?_)
    · exact k44
    · have q2 := qgeF q2 j n
      iterate 1 (refine kX_one rfl ?_)
      refine kX_getN rfl rfl (kT_kn h1) rfl ?_
      iterate 2 (refine kX_one rfl ?_)
      refine kX_baldN rfl rfl (by decide) (j) (by first | rfl | decide) (by omega) ?_
      repeat refine kX_one rfl ?_
      refine kX_if (fun q3 => ?_) (fun q3 => ?_)
      · exact k40
      · iterate 1 (refine kX_one rfl ?_)
        refine kX_getN rfl rfl (kT_kn h1) rfl ?_
        iterate 1 (refine kX_one rfl ?_)
        refine kX_ialdN rfl ((kT_k7 h1).1) (by decide) (j) (by first | rfl | decide) (by omega) ?_
        iterate 1 (refine kX_one rfl ?_)
        refine kX_getN rfl rfl (kT_kn h1) rfl ?_
        repeat refine kX_one rfl ?_
        refine kX_if (fun q4 => ?_) (fun q4 => ?_)
        · exact k44
        · exact k40
theorem nP_make {σ : kS} {K : Nat} {f : Nat → Int32} (h : nR σ K) : nP σ (va_up σ (K + 6) f) K := by
  refine ⟨fun c hc => up_ne (by omega), up_ne (by omega), fun j _ _ => by rw [up_ne (by omega)], ?_⟩
  unfold nR
  rw [up_ne (by omega), up_ne (by omega)]
  exact h
set_option maxRecDepth 100000 in
set_option maxHeartbeats 4000000 in
theorem mc_canMake (L : Nat) (xs : Nat → Int32) (K st n u : Nat) : ∀ (m d : Nat) (dd : Nat) (σ : kS) (x : Int32), dd + m = 49 → nB σ K st n u → nR σ K → kXM kT L xs (d + m + 2) 55 [.ref K, .int x, .int (nI dd)] σ (fun r σ' => (r = some (.int 0) ∨ r = some (.int 1)) ∧ nP σ σ' K) := by
  intro m
  induction m with
  | zero =>
    intro d dd σ x hdd h hR
    unfold kXM
    iterate 2 (refine kX_one rfl ?_)
    refine kX_cal (mc_kHas L xs d σ K st n u x h) rfl (Or.inr rfl) rfl (jcall_v rfl rfl rfl (kT_kn h.1) rfl rfl) rfl (fun r1 σ1 q1 => ?_)
    obtain ⟨rfl, rfl⟩ := q1
    repeat refine kX_one rfl ?_
    refine kX_if (fun q => ?_) (fun q => ?_)
    · repeat refine kX_one rfl ?_
      refine kX_ret (i := .ireturn) (len := 1) rfl (Or.inr rfl) rfl (⟨Or.inl rfl, nP_refl hR⟩)
    · iterate 2 (refine kX_one rfl ?_)
      repeat refine kX_one rfl ?_
      refine kX_if (fun q2 => ?_) (fun q2 => ?_)
      · repeat refine kX_one rfl ?_
        refine kX_ret (i := .ireturn) (len := 1) rfl (Or.inr rfl) rfl (⟨Or.inl rfl, nP_refl hR⟩)
      · have q2 := qgtF q2 dd 48
        omega
  | succ m ih =>
    intro d dd σ x hdd h hR
    have hb := isK_b h.1
    unfold kXM
    have k28 : kX kT L xs (d + m + 3) 55 28 (lv_args 0 [.ref K, .int x, .int (nI dd)]) [] σ (fun r σ' => (r = some (.int 0) ∨ r = some (.int 1)) ∧ nP σ σ' K) := by
      repeat refine kX_one rfl ?_
      refine kX_ret (i := .ireturn) (len := 1) rfl (Or.inr rfl) rfl (⟨Or.inl rfl, nP_refl hR⟩)
    iterate 2 (refine kX_one rfl ?_)
    refine kX_cal (mc_kHas L xs (d + m + 1) σ K st n u x h) rfl (Or.inr rfl) rfl (jcall_v rfl rfl rfl (kT_kn h.1) rfl rfl) rfl (fun r1 σ1 q1 => ?_)
    obtain ⟨rfl, rfl⟩ := q1
    repeat refine kX_one rfl ?_
    refine kX_if (fun q => ?_) (fun q => ?_)
    · exact k28
    · obtain ⟨g, hg, rfl⟩ := nH_lt h.2.1 hb.2.2.2 h.2.2.1 (isB_ne.mp (qeqF q))
      iterate 2 (refine kX_one rfl ?_)
      repeat refine kX_one rfl ?_
      refine kX_if (fun q2 => ?_) (fun q2 => ?_)
      · exact k28
      · iterate 1 (refine kX_one rfl ?_)
        refine kX_getN rfl rfl (kT_kn h.1) rfl ?_
        iterate 1 (refine kX_one rfl ?_)
        refine kX_ialdN rfl (kT_k5 h.1 (Or.inr rfl)) (by decide) (g) (by first | rfl | decide) (hg) ?_
        iterate 1 (refine kX_one rfl ?_)
        refine kX_getN rfl rfl (kT_kn h.1) rfl ?_
        iterate 1 (refine kX_one rfl ?_)
        repeat refine kX_one rfl ?_
        refine kX_if (fun q3 => ?_) (fun q3 => ?_)
        · iterate 1 (refine kX_one rfl ?_)
          refine kX_getN rfl rfl (kT_kn h.1) rfl ?_
          iterate 1 (refine kX_one rfl ?_)
          refine kX_ialdN rfl (kT_k5 h.1 (Or.inr rfl)) (by decide) (g) (by first | rfl | decide) (hg) ?_
          iterate 1 (refine kX_one rfl ?_)
          refine kX_getN rfl rfl (kT_kn h.1) rfl ?_
          repeat refine kX_one rfl ?_
          refine kX_if (fun q4 => ?_) (fun q4 => ?_)
          · have k224 : ∀ (τ : kS) (v : Int32) (y z : Int32), (v = 0 ∨ v = 1) → nP σ τ K → kX kT L xs (d + m + 3) 55 224 [(5, .int v), (3, .int y), (4, .int z), (0, .ref K), (1, .int (nI g)), (2, .int (nI dd))] [] τ (fun r σ' => (r = some (.int 0) ∨ r = some (.int 1)) ∧ nP σ σ' K) := by
              intro τ v y z hv hP
              have k262 : ∀ w : Int32, kX kT L xs (d + m + 3) 55 262 [(5, .int v), (3, .int y), (4, .int z), (0, .ref K), (1, .int (nI g)), (2, .int (nI dd))] [.int w, .int (nI g), .ref (K + 6)] τ (fun r σ' => (r = some (.int 0) ∨ r = some (.int 1)) ∧ nP σ σ' K) := by
                intro w
                refine kX_iastN rfl (kT_k5 h.1 (Or.inr rfl)) (by decide) (g) (by first | rfl | decide) (hg) ?_
                iterate 1 (refine kX_one rfl ?_)
                rcases hv with rfl | rfl
                · refine kX_ret (i := .ireturn) (len := 1) rfl (Or.inr rfl) rfl (⟨Or.inl rfl, nP_trans hP (nP_make hP.2.2.2)⟩)
                · refine kX_ret (i := .ireturn) (len := 1) rfl (Or.inr rfl) rfl (⟨Or.inr rfl, nP_trans hP (nP_make hP.2.2.2)⟩)
              iterate 1 (refine kX_one rfl ?_)
              refine kX_getN rfl rfl (kT_kn h.1) rfl ?_
              iterate 2 (refine kX_one rfl ?_)
              repeat refine kX_one rfl ?_
              refine kX_if (fun q5 => ?_) (fun q5 => ?_)
              · iterate 1 (refine kX_one rfl ?_)
                refine kX_getN rfl rfl (kT_kn h.1) rfl ?_
                repeat refine kX_one rfl ?_
                refine kX_if (fun q6 => ?_) (fun q6 => ?_)
                · iterate 1 (refine kX_one rfl ?_)
                  refine kX_getN rfl rfl (kT_kn h.1) rfl ?_
                  iterate 1 (refine kX_one rfl ?_)
                  refine kX_ialdN rfl (kT_k5 h.1 (Or.inr rfl)) (by decide) (g) (by first | rfl | decide) (hg) ?_
                  exact k262 _
                · iterate 1 (refine kX_one rfl ?_)
                  refine kX_getN rfl rfl (kT_kn h.1) rfl ?_
                  iterate 2 (refine kX_one rfl ?_)
                  exact k262 _
              · iterate 1 (refine kX_one rfl ?_)
                refine kX_getN rfl rfl (kT_kn h.1) rfl ?_
                iterate 1 (refine kX_one rfl ?_)
                exact k262 _
            have hrec : ∀ τ w, nP σ τ K → kXM kT L xs (d + m + 2) 55 [.ref K, .int w, .int (nI dd + Int32.ofInt 1)] τ (fun r σ' => (r = some (.int 0) ∨ r = some (.int 1)) ∧ nP τ σ' K) := fun τ w hP => by
              have := ih d (dd + 1) τ w (by omega) (nB_P h hP) hP.2.2.2
              rw [← nI_1] at this
              exact this
            have k224' : ∀ (v : Int32) (y z : Int32) τ, (v = 0 ∨ v = 1) → nP σ τ K → ∀ lv, nk lv = true → ([(5, .int v), (3, .int y), (4, .int z), (0, .ref K), (1, .int (nI g)), (2, .int (nI dd))] : jL).map (fun q => jl lv q.1) = ([(5, Value.int v), (3, .int y), (4, .int z), (0, .ref K), (1, .int (nI g)), (2, .int (nI dd))] : jL).map (fun q => some q.2) → kX kT L xs (d + m + 3) 55 224 lv [] τ (fun r σ' => (r = some (.int 0) ∨ r = some (.int 1)) ∧ nP σ σ' K) := fun v y z τ hv hP lv hk hlv => kX_lv _ hk rfl hlv (k224 τ v y z hv hP)
            iterate 1 (refine kX_one rfl ?_)
            refine kX_getN rfl rfl (kT_kn h.1) rfl ?_
            iterate 2 (refine kX_one rfl ?_)
            refine kX_ialdN rfl rfl (by decide) (g) (by first | rfl | decide) (hg) ?_
            iterate 2 (refine kX_one rfl ?_)
            refine kX_getN rfl rfl (kT_kn h.1) rfl ?_
            iterate 2 (refine kX_one rfl ?_)
            refine kX_ialdN rfl rfl (by decide) (g) (by first | rfl | decide) (hg) ?_
            iterate 4 (refine kX_one rfl ?_)
            refine kX_getN rfl rfl (kT_kn h.1) rfl ?_
            iterate 2 (refine kX_one rfl ?_)
            refine kX_ialdN rfl rfl (by decide) (g) (by first | rfl | decide) (hg) ?_
            have hz : nP σ σ K := nP_refl hR
            by_cases hy : ∃ k, k < 10 ∧ σ 2 g = nI k
            · obtain ⟨k, hk, hk2⟩ := hy
              refine kX_top (hk2) ?_
              have : k = 0 ∨ k = 1 ∨ k = 2 ∨ k = 3 ∨ k = 4 ∨ k = 5 ∨ k = 6 ∨ k = 7 ∨ k = 8 ∨ k = 9 := by omega
              have k138 : kX kT L xs (d + m + 3) 55 138 [(5, .int 0), (3, .int (σ 3 g)), (4, .int (σ 4 g)), (0, .ref K), (1, .int (nI g)), (2, .int (nI dd))] [] σ (fun r σ' => (r = some (.int 0) ∨ r = some (.int 1)) ∧ nP σ σ' K) := by
                iterate 5 (refine kX_one rfl ?_)
                refine kX_cal (hrec σ (σ 3 g) hz) rfl (Or.inr rfl) rfl (jcall_v rfl rfl rfl (kT_kn h.1) rfl rfl) rfl (fun r1 σ1 q1 => ?_)
                obtain ⟨hq, hP1⟩ := q1
                rcases hq with rfl | rfl
                · iterate 4 (refine kX_one rfl ?_)
                  exact k224' 0 _ _ σ1 (Or.inl rfl) hP1 _ rfl rfl
                · iterate 6 (refine kX_one rfl ?_)
                  refine kX_cal (hrec σ1 (σ 4 g) hP1) rfl (Or.inr rfl) rfl (jcall_v rfl rfl rfl (kT_kn h.1) rfl rfl) rfl (fun r1 σ1 q1 => ?_)
                  obtain ⟨hq, hP2⟩ := q1
                  rcases hq with rfl | rfl
                  · iterate 4 (refine kX_one rfl ?_)
                    exact k224' 0 _ _ _ (Or.inl rfl) (nP_trans hP1 hP2) _ rfl rfl
                  · iterate 5 (refine kX_one rfl ?_)
                    exact k224' 1 _ _ _ (Or.inr rfl) (nP_trans hP1 hP2) _ rfl rfl
              have k171 : kX kT L xs (d + m + 3) 55 171 [(5, .int 0), (3, .int (σ 3 g)), (4, .int (σ 4 g)), (0, .ref K), (1, .int (nI g)), (2, .int (nI dd))] [] σ (fun r σ' => (r = some (.int 0) ∨ r = some (.int 1)) ∧ nP σ σ' K) := by
                iterate 5 (refine kX_one rfl ?_)
                refine kX_cal (hrec σ (σ 3 g) hz) rfl (Or.inr rfl) rfl (jcall_v rfl rfl rfl (kT_kn h.1) rfl rfl) rfl (fun r1 σ1 q1 => ?_)
                obtain ⟨hq, hP1⟩ := q1
                rcases hq with rfl | rfl
                · iterate 2 (refine kX_one rfl ?_)
                  exact k224' 0 _ _ σ1 (Or.inl rfl) hP1 _ rfl rfl
                · iterate 2 (refine kX_one rfl ?_)
                  exact k224' 1 _ _ σ1 (Or.inr rfl) hP1 _ rfl rfl
              rcases this with rfl | rfl | rfl | rfl | rfl | rfl | rfl | rfl | rfl | rfl
              · iterate 4 (refine kX_one rfl ?_)
                exact k224' 1 _ _ σ (Or.inr rfl) hz _ rfl rfl
              · iterate 1 (refine kX_one rfl ?_)
                exact k224' 0 _ _ σ (Or.inl rfl) hz _ rfl rfl
              · iterate 1 (refine kX_one rfl ?_)
                exact k224' 0 _ _ σ (Or.inl rfl) hz _ rfl rfl
              · iterate 1 (refine kX_one rfl ?_)
                exact k224' 0 _ _ σ (Or.inl rfl) hz _ rfl rfl
              · iterate 1 (refine kX_one rfl ?_)
                exact kX_lv _ rfl rfl rfl k138
              · iterate 1 (refine kX_one rfl ?_)
                exact kX_lv _ rfl rfl rfl k138
              · iterate 1 (refine kX_one rfl ?_)
                exact kX_lv _ rfl rfl rfl k171
              · iterate 3 (refine kX_one rfl ?_)
                refine kX_cal (mc_hasPriv L xs (d + m + 1) σ K st n u (σ 3 g) h) rfl (Or.inr rfl) rfl (jcall_v rfl rfl rfl (kT_kn h.1) rfl rfl) rfl (fun r1 σ1 q1 => ?_)
                obtain ⟨hq, rfl⟩ := q1
                rcases hq with rfl | rfl
                · iterate 2 (refine kX_one rfl ?_)
                  exact k224' 0 _ _ σ (Or.inl rfl) hz _ rfl rfl
                · iterate 2 (refine kX_one rfl ?_)
                  exact k224' 1 _ _ σ (Or.inr rfl) hz _ rfl rfl
              · iterate 3 (refine kX_one rfl ?_)
                refine kX_cal (mc_hasPriv L xs (d + m + 1) σ K st n u (σ 4 g) h) rfl (Or.inr rfl) rfl (jcall_v rfl rfl rfl (kT_kn h.1) rfl rfl) rfl (fun r1 σ1 q1 => ?_)
                obtain ⟨hq, rfl⟩ := q1
                rcases hq with rfl | rfl
                · iterate 4 (refine kX_one rfl ?_)
                  exact k224' 0 _ _ σ (Or.inl rfl) hz _ rfl rfl
                · iterate 6 (refine kX_one rfl ?_)
                  refine kX_cal (hrec σ (σ 3 g) hz) rfl (Or.inr rfl) rfl (jcall_v rfl rfl rfl (kT_kn h.1) rfl rfl) rfl (fun r1 σ1 q1 => ?_)
                  obtain ⟨hq, hP1⟩ := q1
                  rcases hq with rfl | rfl
                  · iterate 4 (refine kX_one rfl ?_)
                    exact k224' 0 _ _ _ (Or.inl rfl) hP1 _ rfl rfl
                  · iterate 5 (refine kX_one rfl ?_)
                    exact k224' 1 _ _ _ (Or.inr rfl) hP1 _ rfl rfl
              · iterate 1 (refine kX_one rfl ?_)
                exact kX_lv _ rfl rfl rfl k171
            · refine kX_tabO rfl (kp_out 10 (fun k hk e => hy ⟨k, hk, e⟩) (by decide)) rfl ?_
              exact k224' 0 _ _ σ (Or.inl rfl) hz _ rfl rfl
          · repeat refine kX_one rfl ?_
            refine kX_ret (i := .ireturn) (len := 1) rfl (Or.inr rfl) rfl (⟨Or.inr rfl, nP_refl hR⟩)
        · exact k28
end
