/-! the class: session, all of it -/
theorem ag_ground {σ : kS} {n : Nat} {a : Int32} (h : cT σ n) (hA : ∃ t, t < n ∧ a = nI t ∧ σ 2 t = 0) : gV σ n a := by
  obtain ⟨t, t1, t2, t3⟩ := hA
  have hn := h.1
  obtain ⟨-, -, -, -, -, a6, a7, -⟩ := h.2.2.2 t t1
  refine Or.inr ⟨t, t1, t2, ?_⟩
  have h3 : σ 2 t ≠ nI 3 := by rw [t3]; decide
  obtain ⟨f1, f2⟩ := a7 (by rw [t3]; decide)
  rw [a6 h3, f1, f2]
  exact ⟨cG_m1 σ t (by omega), cG_m1 σ t (by omega)⟩
set_option maxRecDepth 100000 in
set_option maxHeartbeats 4000000 in
theorem mk_session (L : Nat) (xs : Nat → Int32) (d : Nat) (σ : kS) (n R S C : Nat) (x a b c : Int32) (h : cJ σ n R S C) : kXM kT L xs (d + 6) 118 [.ref 0, .int x, .int a, .int b, .int c] σ (fun r σ' => (∃ x, r = some (.int x)) ∧ cAfter σ σ' R) := by
  have hT := h.1
  have hn := hT.1
  have hR := h.2.1
  have hR4 := hR.1
  have hSe := h.2.2.1
  have hS4 := hSe.1
  unfold kXM
  iterate 3 (refine kX_one rfl ?_)
  refine kX_cal (mc_hasRole L xs (d + 4) σ R x hR4 hR.2.1) rfl (Or.inr rfl) rfl rfl rfl (fun r1 σ1 q1 => ?_)
  obtain ⟨rfl, rfl⟩ := q1
  repeat refine kX_one rfl ?_
  refine kX_if (fun q => ?_) (fun q => ?_)
  · obtain ⟨r, hr, rfl⟩ := isB_ne.mp (qne q)
    have hr4 : r < 4 := by omega
    obtain ⟨vc, ev, v1, e1, v2, e2, so1, ev1⟩ := hR.2.2 r hr
    have hPle : cnt (fun k => σ (24 + 35 * r) k = 0) vc ≤ vc := cnt_le _ _
    have key : ∀ P, P ≤ 6 → cnt (fun k => σ (24 + 35 * r) k = 0) vc = P → kX kT L xs (d + 6) 118 28 [(5, .int (nI P)), (0, .ref 0), (1, .int (nI r)), (2, .int a), (3, .int b), (4, .int c)] [] σ (fun r σ' => (∃ x, r = some (.int x)) ∧ cAfter σ σ' R) := by
      intro P hP6 hP
      have k79 : kX kT L xs (d + 6) 118 79 [(5, .int (nI P)), (0, .ref 0), (1, .int (nI r)), (2, .int a), (3, .int b), (4, .int c)] [] σ (fun r σ' => (∃ x, r = some (.int x)) ∧ cAfter σ σ' R) := by
        repeat refine kX_one rfl ?_
        refine kX_ret (i := .ireturn) (len := 1) rfl (Or.inr rfl) rfl (⟨⟨_, rfl⟩, cAfter_same h⟩)
      have k132 : kX kT L xs (d + 6) 118 132 [(5, .int (nI P)), (0, .ref 0), (1, .int (nI r)), (2, .int a), (3, .int b), (4, .int c)] [] σ (fun r σ' => (∃ x, r = some (.int x)) ∧ cAfter σ σ' R) := by
        repeat refine kX_one rfl ?_
        refine kX_ret (i := .ireturn) (len := 1) rfl (Or.inr rfl) rfl (⟨⟨_, rfl⟩, cAfter_same h⟩)
      have k205 : ∀ z : Int32, kX kT L xs (d + 6) 118 205 [(6, .int z), (5, .int (nI P)), (0, .ref 0), (1, .int (nI r)), (2, .int a), (3, .int b), (4, .int c)] [] σ (fun r σ' => (∃ x, r = some (.int x)) ∧ cAfter σ σ' R) := by
        intro z
        repeat refine kX_one rfl ?_
        refine kX_ret (i := .ireturn) (len := 1) rfl (Or.inr rfl) rfl (⟨⟨_, rfl⟩, cAfter_same h⟩)
      have k81 : kX kT L xs (d + 6) 118 81 [(5, .int (nI P)), (0, .ref 0), (1, .int (nI r)), (2, .int a), (3, .int b), (4, .int c)] [] σ (fun r σ' => (∃ x, r = some (.int x)) ∧ cAfter σ σ' R) := by
        repeat refine kX_one rfl ?_
        refine kX_if (fun q2 => ?_) (fun q2 => ?_)
        · have hon : σ 181 8 = 0 := qeq q2
          iterate 3 (refine kX_one rfl ?_)
          refine kX_top (hSe.2.1) ?_
          iterate 1 (refine kX_one rfl ?_)
          repeat refine kX_one rfl ?_
          refine kX_if (fun q3 => ?_) (fun q3 => ?_)
          · exact k132
          · have hS := qgeF q3 S 4
            have k191 : kX kT L xs (d + 6) 118 191 [(5, .int (nI P)), (0, .ref 0), (1, .int (nI r)), (2, .int a), (3, .int b), (4, .int c)] [] σ (fun r σ' => (∃ x, r = some (.int x)) ∧ cAfter σ σ' R) := by
              iterate 4 (refine kX_one rfl ?_)
              repeat refine kX_one rfl ?_
              refine kX_if (fun q4 => ?_) (fun q4 => ?_)
              · exact kX_lv _ rfl rfl rfl (k205 0)
              · iterate 2 (refine kX_one rfl ?_)
                exact kX_lv _ rfl rfl rfl (k205 0)
            have k187 : (1 ≤ P → gV σ n a) → (2 ≤ P → gV σ n b) → (3 ≤ P → gV σ n c) → kX kT L xs (d + 6) 118 187 [(5, .int (nI P)), (0, .ref 0), (1, .int (nI r)), (2, .int a), (3, .int b), (4, .int c)] [] σ (fun r σ' => (∃ x, r = some (.int x)) ∧ cAfter σ σ' R) := by
              intro ha hb hc
              iterate 5 (refine kX_one rfl ?_)
              repeat refine kX_one rfl ?_
              refine kX_if (fun q4 => ?_) (fun q4 => ?_)
              · exact kX_lv _ rfl rfl rfl (k205 1)
              · have q4 := qgtF q4 P 3
                iterate 4 (refine kX_one rfl ?_)
                refine kX_cal (mc_forget L xs (d + 2) σ) rfl (Or.inr rfl) rfl rfl rfl (fun r1 ρ q1 => ?_)
                obtain ⟨rfl, g1, g2, -, -, g3⟩ := q1
                have h2 := cJ_sr h g3 (cSr_0 g1 g2)
                have eg : ∀ e, e < 181 → ρ e = σ e := fun e he => g3 e (by omega) (by omega) (by omega)
                have hgv : ∀ w, gV σ n w → gV ρ n w := fun w hw => gV_up (Nat.le_refl _) (fun z _ => by rw [eg _ (by decide)]) hw
                have h24 : ρ (24 + 35 * r) = σ (24 + 35 * r) := eg _ (by omega)
                iterate 6 (refine kX_one rfl ?_)
                refine kX_cal (mc_newSession L xs d ρ n R S C r vc a b c h2 hS hr v1 (by rw [eg _ (by omega)]; exact v2) (by rw [h24, hP]; exact q4) (by rw [h24, hP]; exact fun z => hgv _ (ha z)) (by rw [h24, hP]; exact fun z => hgv _ (hb z)) (by rw [h24, hP]; exact fun z => hgv _ (hc z)) (by rw [g3 181 (by decide) (by decide) (by decide)]; exact hon) g1 g2) rfl (Or.inr rfl) rfl rfl rfl (fun r1 τ q1 => ?_)
                obtain ⟨⟨w, rfl⟩, hA⟩ := q1
                refine kX_ret (i := .ireturn) (len := 1) rfl (Or.inr rfl) rfl (⟨⟨_, rfl⟩, cHi_trans (fun e he => g3 e (by omega) (by omega) (by omega)) hA.1, hA.2⟩)
            have k169 : (1 ≤ P → gV σ n a) → (2 ≤ P → gV σ n b) → kX kT L xs (d + 6) 118 169 [(5, .int (nI P)), (0, .ref 0), (1, .int (nI r)), (2, .int a), (3, .int b), (4, .int c)] [] σ (fun r σ' => (∃ x, r = some (.int x)) ∧ cAfter σ σ' R) := by
              intro ha hb
              iterate 2 (refine kX_one rfl ?_)
              repeat refine kX_one rfl ?_
              refine kX_if (fun q4 => ?_) (fun q4 => ?_)
              · have q4 := qlt q4 P 3
                exact k187 ha hb (fun z => by omega)
              · iterate 3 (refine kX_one rfl ?_)
                refine kX_cal (mc_isAgent L xs (d + 3) σ n c hn hT.2.1) rfl (Or.inr rfl) rfl rfl rfl (fun r1 σ1 q1 => ?_)
                obtain ⟨rfl, rfl⟩ := q1
                repeat refine kX_one rfl ?_
                refine kX_if (fun q5 => ?_) (fun q5 => ?_)
                · exact k191
                · exact k187 ha hb (fun _ => ag_ground hT (isB_ne.mp (qeqF q5)))
            have k152 : (1 ≤ P → gV σ n a) → kX kT L xs (d + 6) 118 152 [(5, .int (nI P)), (0, .ref 0), (1, .int (nI r)), (2, .int a), (3, .int b), (4, .int c)] [] σ (fun r σ' => (∃ x, r = some (.int x)) ∧ cAfter σ σ' R) := by
              intro ha
              iterate 2 (refine kX_one rfl ?_)
              repeat refine kX_one rfl ?_
              refine kX_if (fun q4 => ?_) (fun q4 => ?_)
              · have q4 := qlt q4 P 2
                exact k169 ha (fun z => by omega)
              · iterate 3 (refine kX_one rfl ?_)
                refine kX_cal (mc_isAgent L xs (d + 3) σ n b hn hT.2.1) rfl (Or.inr rfl) rfl rfl rfl (fun r1 σ1 q1 => ?_)
                obtain ⟨rfl, rfl⟩ := q1
                repeat refine kX_one rfl ?_
                refine kX_if (fun q5 => ?_) (fun q5 => ?_)
                · exact k191
                · exact k169 ha (fun _ => ag_ground hT (isB_ne.mp (qeqF q5)))
            iterate 7 (refine kX_one rfl ?_)
            refine kX_aaldN rfl (rfl) (by decide) (by decide) (by decide) (r) (by first | rfl | decide) (hr4) (ro_at hr4) ?_
            iterate 1 (refine kX_one rfl ?_)
            refine kX_cal (mc_countOf L xs (d + 4) σ r vc 1 hr4 v1 v2) rfl (Or.inr rfl) rfl (jcall_v rfl rfl rfl (kT_ro hr4) rfl rfl) rfl (fun r1 σ1 q1 => ?_)
            obtain ⟨rfl, rfl⟩ := q1
            iterate 2 (refine kX_one rfl ?_)
            repeat refine kX_one rfl ?_
            refine kX_if (fun q4 => ?_) (fun q4 => ?_)
            · iterate 2 (refine kX_one rfl ?_)
              repeat refine kX_one rfl ?_
              refine kX_if (fun q5 => ?_) (fun q5 => ?_)
              · have q5 := qlt q5 P 1
                exact k152 (fun z => by omega)
              · iterate 3 (refine kX_one rfl ?_)
                refine kX_cal (mc_isAgent L xs (d + 3) σ n a hn hT.2.1) rfl (Or.inr rfl) rfl rfl rfl (fun r1 σ1 q1 => ?_)
                obtain ⟨rfl, rfl⟩ := q1
                repeat refine kX_one rfl ?_
                refine kX_if (fun q6 => ?_) (fun q6 => ?_)
                · exact k191
                · exact k152 (fun _ => ag_ground hT (isB_ne.mp (qeqF q6)))
            · exact k132
        · repeat refine kX_one rfl ?_
          refine kX_ret (i := .ireturn) (len := 1) rfl (Or.inr rfl) rfl (⟨⟨_, rfl⟩, cAfter_same h⟩)
      have k61 : kX kT L xs (d + 6) 118 61 [(5, .int (nI P)), (0, .ref 0), (1, .int (nI r)), (2, .int a), (3, .int b), (4, .int c)] [] σ (fun r σ' => (∃ x, r = some (.int x)) ∧ cAfter σ σ' R) := by
        iterate 2 (refine kX_one rfl ?_)
        repeat refine kX_one rfl ?_
        refine kX_if (fun q2 => ?_) (fun q2 => ?_)
        · exact k81
        · iterate 3 (refine kX_one rfl ?_)
          refine kX_cal (mc_has L xs (d + 4) σ n c hn hT.2.1) rfl (Or.inr rfl) rfl rfl rfl (fun r1 σ1 q1 => ?_)
          obtain ⟨rfl, rfl⟩ := q1
          repeat refine kX_one rfl ?_
          refine kX_if (fun q3 => ?_) (fun q3 => ?_)
          · exact k81
          · exact k79
      have k44 : kX kT L xs (d + 6) 118 44 [(5, .int (nI P)), (0, .ref 0), (1, .int (nI r)), (2, .int a), (3, .int b), (4, .int c)] [] σ (fun r σ' => (∃ x, r = some (.int x)) ∧ cAfter σ σ' R) := by
        iterate 2 (refine kX_one rfl ?_)
        repeat refine kX_one rfl ?_
        refine kX_if (fun q2 => ?_) (fun q2 => ?_)
        · exact k61
        · iterate 3 (refine kX_one rfl ?_)
          refine kX_cal (mc_has L xs (d + 4) σ n b hn hT.2.1) rfl (Or.inr rfl) rfl rfl rfl (fun r1 σ1 q1 => ?_)
          obtain ⟨rfl, rfl⟩ := q1
          repeat refine kX_one rfl ?_
          refine kX_if (fun q3 => ?_) (fun q3 => ?_)
          · exact k79
          · exact k61
      iterate 1 (refine kX_one rfl ?_)
      repeat refine kX_one rfl ?_
      refine kX_if (fun q2 => ?_) (fun q2 => ?_)
      · exact k44
      · iterate 3 (refine kX_one rfl ?_)
        refine kX_cal (mc_has L xs (d + 4) σ n a hn hT.2.1) rfl (Or.inr rfl) rfl rfl rfl (fun r1 σ1 q1 => ?_)
        obtain ⟨rfl, rfl⟩ := q1
        repeat refine kX_one rfl ?_
        refine kX_if (fun q3 => ?_) (fun q3 => ?_)
        · exact k79
        · exact k44
    iterate 4 (refine kX_one rfl ?_)
    refine kX_aaldN rfl (rfl) (by decide) (by decide) (by decide) (r) (by first | rfl | decide) (hr4) (ro_at hr4) ?_
    iterate 1 (refine kX_one rfl ?_)
    refine kX_cal (mc_countOf L xs (d + 4) σ r vc 0 hr4 v1 v2) rfl (Or.inr rfl) rfl (jcall_v rfl rfl rfl (kT_ro hr4) rfl rfl) rfl (fun r1 σ1 q1 => ?_)
    obtain ⟨rfl, rfl⟩ := q1
    iterate 1 (refine kX_one rfl ?_)
    exact kX_lv _ rfl rfl rfl (key _ (by omega) rfl)
  · repeat refine kX_one rfl ?_
    refine kX_ret (i := .ireturn) (len := 1) rfl (Or.inr rfl) rfl (⟨⟨_, rfl⟩, cAfter_same h⟩)
