/-! the reference: isReceived, event -/
set_option maxRecDepth 100000 in
set_option maxHeartbeats 4000000 in
theorem mr_rc_in (L : Nat) (xs : Nat → Int32) (d : Nat) (σ : kS) (W ST : Nat → Int32) (acc : List Nat) (e r t : Nat) (hl : lst ST acc) (ha : acc.length ≤ 24) (ht : t < 1000) (h1000 : ∀ x ∈ acc, x < 1000) (Q : Option Value → kS → Prop)
    (he : kX kT L xs (d + 1) 165 90 [(3, .int (isB (t ∈ acc))), (4, .int (nI e)), (0, .ref 232), (1, .int (nI r)), (2, .int (nI t))] [] (fvS σ W ST (nI acc.length)) Q) :
    ∀ k : Nat, k ≤ acc.length → kX kT L xs (d + 1) 165 54 [(5, .int (nI k)), (3, .int (isB (∃ i, i < k ∧ acc[i]? = some t))), (4, .int (nI e)), (0, .ref 232), (1, .int (nI r)), (2, .int (nI t))] [] (fvS σ W ST (nI acc.length)) Q := by
  refine kX_while (fun k : Nat => [(5, .int (nI k)), (3, .int (isB (∃ i, i < k ∧ acc[i]? = some t))), (4, .int (nI e)), (0, .ref 232), (1, .int (nI r)), (2, .int (nI t))]) (fun _ => fvS σ W ST (nI acc.length)) _ (fun k => acc.length - k) ?_
  intro k hk ih
  iterate 3 (refine kX_one rfl ?_)
  repeat refine kX_one rfl ?_
  refine kX_if (fun q => ?_) (fun q => ?_)
  · have q := qge q k acc.length
    have e : isB (∃ i, i < k ∧ acc[i]? = some t) = isB (t ∈ acc) := by
      have : (∃ i, i < k ∧ acc[i]? = some t) ↔ t ∈ acc := by
        rw [List.mem_iff_getElem?]
        exact ⟨fun ⟨i, _, h⟩ => ⟨i, h⟩, fun ⟨i, h⟩ => ⟨i, by have := (List.getElem?_eq_some_iff.mp h).1; omega, h⟩⟩
      rw [propext this]
    rw [e]
    refine kX_lv ([(3, .int (isB (t ∈ acc))), (4, .int (nI _)), (0, .ref 232), (1, .int (nI r)), (2, .int (nI t))]) rfl rfl rfl ?_
    exact he
  · have q := qgeF q k acc.length
    have hgo : ∀ v : Int32, v = isB (∃ i, i < k + 1 ∧ acc[i]? = some t) → kX kT L xs (d + 1) 165 83 [(5, .int (nI k)), (3, .int (isB (∃ i, i < k ∧ acc[i]? = some t))), (4, .int (nI e)), (0, .ref 232), (1, .int (nI r)), (2, .int (nI t))] [.int v] (fvS σ W ST (nI acc.length)) Q := by
      intro v hv
      subst hv
      iterate 3 (refine kX_one rfl ?_)
      have := ih (k + 1) q (by omega)
      rw [← nI_1] at this
      refine kX_lv _ rfl rfl rfl this
    iterate 1 (refine kX_one rfl ?_)
    repeat refine kX_one rfl ?_
    refine kX_if (fun q2 => ?_) (fun q2 => ?_)
    · have q2 := isB_ne.mp (qne q2)
      obtain ⟨i, hi, hi2⟩ := q2
      iterate 2 (refine kX_one rfl ?_)
      exact hgo _ (isB_T ⟨i, by omega, hi2⟩).symm
    · have q2 : ¬ ∃ i, i < k ∧ acc[i]? = some t := fun h => isB_ne.mpr h (qneF q2)
      repeat refine kX_one rfl ?_
      refine kX_ialdN rfl rfl (by decide) (k) (by first | rfl | decide) (by omega) ?_
      iterate 1 (refine kX_one rfl ?_)
      have hk2 : ST k = nI acc[k] := hl k q
      have hlt := h1000 acc[k] (List.getElem_mem q)
      repeat refine kX_one rfl ?_
      refine kX_if (fun q3 => ?_) (fun q3 => ?_)
      · have q3 : ST k ≠ nI t := qne q3
        iterate 1 (refine kX_one rfl ?_)
        refine hgo _ (isB_F ?_).symm
        rintro ⟨i, hi, hi2⟩
        by_cases e : i = k
        · subst e
          rw [List.getElem?_eq_getElem q] at hi2
          rw [hk2, Option.some.inj hi2] at q3
          exact q3 rfl
        · exact q2 ⟨i, by omega, hi2⟩
      · have q3 : ST k = nI t := qneF q3
        iterate 2 (refine kX_one rfl ?_)
        refine hgo _ (isB_T ⟨k, by omega, ?_⟩).symm
        rw [List.getElem?_eq_getElem q]
        exact congrArg some (nI_inj (hk2.symm.trans q3))
theorem ddl_mem {x : Nat} : ∀ (l acc : List Nat), x ∈ ddl acc l ↔ x ∈ acc ∨ x ∈ l
  | [], acc => by simp [ddl]
  | a :: l, acc => by
    rw [ddl_cons, ddl_mem l]
    by_cases h : a ∈ acc
    · rw [if_pos h, List.mem_cons]
      constructor
      · rintro (q | q)
        · exact Or.inl q
        · exact Or.inr (Or.inr q)
      · rintro (q | q | q)
        · exact Or.inl q
        · subst q
          exact Or.inl h
        · exact Or.inr q
    · rw [if_neg h, List.mem_append, List.mem_singleton, List.mem_cons]
      exact ⟨fun q => q.elim (fun q => q.elim Or.inl (fun q => Or.inr (Or.inl q))) (fun q => Or.inr (Or.inr q)), fun q => q.elim (fun q => Or.inl (Or.inl q)) (fun q => q.elim (fun q => Or.inl (Or.inr q)) Or.inr)⟩
/-- the VARIABLE u comes in one of the first e EVENTS of the role r that receive -/
def rcv (σ : kS) (r e u : Nat) : Prop := ∃ e', e' < e ∧ σ 249 (6 * r + e') = 0 ∧ u ∈ tvs (σ 233) (σ 234) (σ 235) (fN (σ 248 (6 * r + e')))
theorem mTb_fv {σ : kS} {n b : Nat} {W ST : Nat → Int32} {m : Int32} (h : mTb σ n b) : mTb (fvS σ W ST m) n b := h
set_option maxRecDepth 100000 in
set_option maxHeartbeats 4000000 in
theorem mr_isReceived (L : Nat) (xs : Nat → Int32) (d : Nat) (σ : kS) (n b R r u : Nat) (h : mTb σ n b) (hR : mRo σ n R) (hr : r < R) (hu : u < n) : kXM kT L xs (d + 2) 165 [.ref 232, .int (nI r), .int (nI u)] σ (fun x σ' => x = some (.int (isB (rcv σ r (fN (σ 247 r)) u))) ∧ ∃ W ST m, σ' = fvS σ W ST m) := by
  have hn := h.1
  have hR4 := hR.1
  obtain ⟨-, ev, he6, hev⟩ := hR.2.2.1 r hr
  have hfe : fN (σ 247 r) = ev := by rw [hev]; exact fN_nI (by omega)
  rw [hfe]
  unfold kXM
  iterate 4 (refine kX_one rfl ?_)
  have loop := kX_while (T := kT) (L := L) (xs := xs) (d := d + 2) (mi := 165) (pc := 5) (Q := fun x σ' => x = some (.int (isB (rcv σ r ev u))) ∧ ∃ W ST m, σ' = fvS σ W ST m)
    (fun q : Nat × (Nat → Int32) × (Nat → Int32) × Int32 => [(4, .int (nI q.1)), (3, .int (isB (rcv σ r q.1 u))), (0, .ref 232), (1, .int (nI r)), (2, .int (nI u))])
    (fun q => fvS σ q.2.1 q.2.2.1 q.2.2.2)
    (fun q => q.1 ≤ ev)
    (fun q => ev - q.1) ?_ (0, σ 252, σ 251, σ 232 22) (Nat.zero_le _)
  · refine kX_to _ _ rfl rfl ?_ ?_ loop
    · have e0 : isB (rcv σ r 0 u) = 0 := isB_F (fun ⟨e', q, _⟩ => by omega)
      dsimp only
      rw [e0]
      rfl
    · funext c; unfold fvS va_up; repeat' split
      all_goals first | rfl | omega | (subst_vars; rfl) | (funext j; unfold upd; repeat' split; all_goals first | rfl | omega | (subst_vars; rfl))
  · rintro ⟨e, W, ST, m⟩ i1 ih
    dsimp only at i1 ih ⊢
    iterate 4 (refine kX_one rfl ?_)
    refine kX_ialdV rfl rfl (by decide) r rfl (by omega) (show fvS σ W ST m 247 r = nI ev from hev) ?_
    repeat refine kX_one rfl ?_
    refine kX_if (fun q => ?_) (fun q => ?_)
    · have q := qge q e ev
      obtain rfl : e = ev := by omega
      repeat refine kX_one rfl ?_
      refine kX_ret (i := .ireturn) (len := 1) rfl (Or.inr rfl) (jend_b rfl (isB_01 _)) (⟨rfl, W, ST, m, rfl⟩)
    · have q := qgeF q e ev
      iterate 1 (refine kX_one rfl ?_)
      repeat refine kX_one rfl ?_
      refine kX_if (fun q2 => ?_) (fun q2 => ?_)
      · obtain ⟨e', e1, e2⟩ := isB_ne.mp (qne q2)
        repeat refine kX_one rfl ?_
        refine kX_ret (i := .ireturn) (len := 1) rfl (Or.inr rfl) (jend_b rfl (isB_01 _)) (⟨by rw [isB_T ⟨e', e1, e2⟩, isB_T ⟨e', by omega, e2⟩], W, ST, m, rfl⟩)
      · have q2 : ¬ rcv σ r e u := fun z => isB_ne.mpr z (qneF q2)
        obtain ⟨t, t1, t2, -⟩ := hR.2.2.2.2.2 r e hr (by omega)
        have back : ∀ (W' ST' : Nat → Int32) (m' : Int32), kX kT L xs (d + 2) 165 90 [(3, .int (isB (rcv σ r (e + 1) u))), (4, .int (nI e)), (0, .ref 232), (1, .int (nI r)), (2, .int (nI u))] [] (fvS σ W' ST' m') (fun x σ' => x = some (.int (isB (rcv σ r ev u))) ∧ ∃ W ST m, σ' = fvS σ W ST m) := by
          intro W' ST' m'
          iterate 2 (refine kX_one rfl ?_)
          have := ih (e + 1, W', ST', m') q (by simp only; omega)
          dsimp only at this
          rw [← nI_1] at this
          refine kX_lv _ rfl rfl rfl this
        iterate 7 (refine kX_one rfl ?_)
        refine kX_baldN rfl rfl (by decide) (6 * r + e) (ix6 r e) (by omega) ?_
        repeat refine kX_one rfl ?_
        refine kX_if (fun q3 => ?_) (fun q3 => ?_)
        · have q3 : σ 249 (6 * r + e) ≠ 0 := qne q3
          have e2 : isB (rcv σ r e u) = isB (rcv σ r (e + 1) u) := congrArg isB (propext ⟨fun z => absurd z q2, fun ⟨e', z1, z2, z3⟩ => ⟨e', by
            have : e' ≠ e := fun ee => q3 (by rw [← ee]; exact z2)
            omega, z2, z3⟩⟩)
          rw [e2]
          exact kX_lv _ rfl rfl rfl (back W ST m)
        · have q3 : σ 249 (6 * r + e) = 0 := qneF q3
          iterate 8 (refine kX_one rfl ?_)
          refine kX_ialdV rfl rfl (by decide) (6 * r + e) (ix6 r e) (by omega) (show fvS σ W ST m 248 (6 * r + e) = nI t from t2) ?_
          refine kX_cal (mr_findVariables L xs d _ n b t (mTb_fv h) t1) rfl (Or.inr rfl) rfl rfl rfl (fun r1 σ1 q1 => ?_)
          obtain ⟨rfl, W', ST', q1, g1, g2⟩ := q1
          subst q1
          iterate 2 (refine kX_one rfl ?_)
          have hin := mr_rc_in L xs (d + 1) σ W' ST' (ddl [] (tvs (σ 233) (σ 234) (σ 235) t)) e r u g1 g2 (by omega) (fun x hx => by
            rcases (ddl_mem _ _).mp hx with hx | hx
            · cases hx
            · have := (tvs_mem (mTb_num h) t t1 x hx).2.2
              omega) _ (by
            have e3 : isB (u ∈ ddl [] (tvs (σ 233) (σ 234) (σ 235) t)) = isB (rcv σ r (e + 1) u) := by
              refine congrArg isB (propext ?_)
              rw [ddl_mem]
              constructor
              · rintro (z | z)
                · cases z
                · exact ⟨e, by omega, q3, by rw [t2, fN_nI (by omega)]; exact z⟩
              · rintro ⟨e', z1, z2, z3⟩
                by_cases ee : e' = e
                · subst ee
                  rw [t2, fN_nI (by omega)] at z3
                  exact Or.inr z3
                · exact absurd ⟨e', by omega, z2, z3⟩ q2
            rw [e3]
            exact back W' ST' _) 0 (Nat.zero_le _)
          have e4 : isB (∃ i, i < 0 ∧ (ddl [] (tvs (σ 233) (σ 234) (σ 235) t))[i]? = some u) = isB (rcv σ r e u) := congrArg isB (propext ⟨fun ⟨i, z, _⟩ => by omega, fun z => absurd z q2⟩)
          rw [e4] at hin
          refine kX_to _ _ rfl rfl rfl ?_ hin
          funext c; unfold fvS va_up; repeat' split
          all_goals first | rfl | omega | (subst_vars; rfl) | (funext j; unfold upd; repeat' split; all_goals first | rfl | omega | (subst_vars; rfl))
