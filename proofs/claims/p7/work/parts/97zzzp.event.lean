/-! alike: event, what the class asks -/
def tvL (σ : kS) : List Nat → List Nat
  | [] => []
  | u :: l => tvs (σ 233) (σ 234) (σ 235) u ++ tvL σ l
def tzL (σ : kS) : List Nat → Nat
  | [] => 0
  | u :: l => tsz (σ 233) (σ 234) (σ 235) u + tzL σ l
theorem tszP {σ : kS} {n b u : Nat} (h : mTb σ n b) (hu : u < n) : 1 ≤ tsz (σ 233) (σ 234) (σ 235) u := by
  unfold tsz
  rcases (mTb_num h u hu).2 with ⟨k, h3, hk, -, -⟩ | ⟨k, x, y, h3, hk, hx, hy, h4, h5, h6, h7⟩ | ⟨k, x, h3, hk, hx, hy, h4, h6⟩
  · rw [tA_0 hk h3]
    exact Nat.le_refl 1
  · rw [tA_2 (mTb_num h) hk hx hy (by omega) (by omega) h4 h5 h6 h7]
    omega
  · rw [tA_1 (mTb_num h) hk hx hy (by omega) (by omega) h4 h6]
    omega
theorem tzL_len {σ : kS} {n b : Nat} (h : mTb σ n b) : ∀ l : List Nat, (∀ u ∈ l, u < n) → l.length ≤ tzL σ l
  | [], _ => Nat.le_refl _
  | u :: l, hl => by
    have h1 := tszP h (hl u List.mem_cons_self)
    have h2 := tzL_len h l (fun x hx => hl x (List.mem_cons_of_mem _ hx))
    rw [List.length_cons, tzL]
    omega
set_option maxRecDepth 100000 in
set_option maxHeartbeats 4000000 in
theorem mf_listVars (L : Nat) (xs : Nat → Int32) (d : Nat) (σ : kS) (n b t : Nat) (h : cT σ n) (hI : mTb σ n b) (hA : aT σ n) (ht : t < n) : kXM kT L xs (d + 2) 11 [.ref 13, .int (nI t)] σ (fun r σ' => ∃ ST VS, r = some (.int (nI (tvs (σ 233) (σ 234) (σ 235) t).length)) ∧ σ' = lvU σ ST VS ∧ lst VS (tvs (σ 233) (σ 234) (σ 235) t) ∧ (tvs (σ 233) (σ 234) (σ 235) t).length ≤ 24) := by
  have hn := h.1
  have h24 : tsz (σ 233) (σ 234) (σ 235) t ≤ 24 := hI.2.2.2.2.2.2.2.2.2 t ht
  unfold kXM
  have loop : ∀ q : Nat × List Nat × List Nat × (Nat → Int32) × (Nat → Int32), (q.1 + tzL σ q.2.1 ≤ 24 ∧ (∀ u ∈ q.2.1, u < n) ∧ q.2.2.1.length ≤ q.1 ∧ lst q.2.2.2.1 q.2.1.reverse ∧ lst q.2.2.2.2 q.2.2.1 ∧ q.2.2.1 ++ tvL σ q.2.1 = tvs (σ 233) (σ 234) (σ 235) t) → kX kT L xs (d + 2) 11 14 [(4, .int (nI q.1)), (3, .int (nI q.2.1.length)), (2, .int (nI q.2.2.1.length)), (0, .ref 13), (1, .int (nI t))] [] (lvU σ q.2.2.2.1 q.2.2.2.2) (fun r σ' => ∃ ST VS, r = some (.int (nI (tvs (σ 233) (σ 234) (σ 235) t).length)) ∧ σ' = lvU σ ST VS ∧ lst VS (tvs (σ 233) (σ 234) (σ 235) t) ∧ (tvs (σ 233) (σ 234) (σ 235) t).length ≤ 24) := by
    refine kX_while (fun q : Nat × List Nat × List Nat × (Nat → Int32) × (Nat → Int32) => [(4, .int (nI q.1)), (3, .int (nI q.2.1.length)), (2, .int (nI q.2.2.1.length)), (0, .ref 13), (1, .int (nI t))]) (fun q => lvU σ q.2.2.2.1 q.2.2.2.2) _ (fun q => 24 - q.1) ?_
    rintro ⟨i, st, acc, ST, VS⟩ ⟨i1, i2, i3, i4, i5, i6⟩ ih
    dsimp only at i1 i2 i3 i4 i5 i6 ih ⊢
    have hlen := tzL_len hI st i2
    have k145 : st = [] → kX kT L xs (d + 2) 11 145 [(4, .int (nI i)), (3, .int (nI st.length)), (2, .int (nI acc.length)), (0, .ref 13), (1, .int (nI t))] [] (lvU σ ST VS) (fun r σ' => ∃ ST VS, r = some (.int (nI (tvs (σ 233) (σ 234) (σ 235) t).length)) ∧ σ' = lvU σ ST VS ∧ lst VS (tvs (σ 233) (σ 234) (σ 235) t) ∧ (tvs (σ 233) (σ 234) (σ 235) t).length ≤ 24) := by
      intro e
      rw [e, tvL, List.append_nil] at i6
      iterate 1 (refine kX_one rfl ?_)
      refine kX_ret (i := .ireturn) (len := 1) rfl (Or.inr rfl) rfl (⟨ST, VS, by rw [i6], rfl, by rw [← i6]; exact i5, by rw [← i6]; omega⟩)
    iterate 2 (refine kX_one rfl ?_)
    repeat refine kX_one rfl ?_
    refine kX_if (fun q => ?_) (fun q => ?_)
    · have q := qge q i 24
      exact k145 (List.length_eq_zero_iff.mp (by omega))
    · have q := qgeF q i 24
      iterate 1 (refine kX_one rfl ?_)
      repeat refine kX_one rfl ?_
      refine kX_if (fun q2 => ?_) (fun q2 => ?_)
      · have q2 := qle q2 st.length 0
        exact k145 (List.length_eq_zero_iff.mp (by omega))
      · have q2 := qleF q2 st.length 0
        obtain ⟨u, l, rfl⟩ : ∃ u l, st = u :: l := by
          cases st with
          | nil => exact absurd q2 (Nat.lt_irrefl 0)
          | cons u l => exact ⟨u, l, rfl⟩
        have u1 : u < n := i2 u List.mem_cons_self
        rw [List.reverse_cons] at i4
        obtain ⟨u2, i4'⟩ := lst_pop i4
        rw [List.length_reverse] at u2
        rw [tzL] at i1
        have hl' : ∀ x ∈ l, x < n := fun x hx => i2 x (List.mem_cons_of_mem _ hx)
        have hll := tzL_len hI l hl'
        obtain ⟨a1, a2, a3, -⟩ := hA.1 u u1
        have k139 : ∀ (w2 : List Nat) (m2 : List Nat) ST2 VS2, tzL σ w2 + 1 ≤ tzL σ (u :: l) → (∀ x ∈ w2, x < n) → m2.length ≤ acc.length + 1 → lst ST2 w2.reverse → lst VS2 m2 → m2 ++ tvL σ w2 = tvs (σ 233) (σ 234) (σ 235) t → kX kT L xs (d + 2) 11 139 [(5, .int (nI u)), (4, .int (nI i)), (3, .int (nI w2.length)), (2, .int (nI m2.length)), (0, .ref 13), (1, .int (nI t))] [] (lvU σ ST2 VS2) (fun r σ' => ∃ ST VS, r = some (.int (nI (tvs (σ 233) (σ 234) (σ 235) t).length)) ∧ σ' = lvU σ ST VS ∧ lst VS (tvs (σ 233) (σ 234) (σ 235) t) ∧ (tvs (σ 233) (σ 234) (σ 235) t).length ≤ 24) := by
          intro w2 m2 ST2 VS2 x1 x2 x3 x4 x5 x6
          rw [tzL] at x1
          iterate 2 (refine kX_one rfl ?_)
          have := ih (i + 1, w2, m2, ST2, VS2) ⟨by simp only; omega, x2, by simp only; omega, x4, x5, x6⟩ (by simp only; omega)
          dsimp only at this
          rw [← nI_1] at this
          exact kX_lv _ rfl rfl rfl this
        have k100 : ∀ (w2 : List Nat) (m2 : List Nat) ST2 VS2, w2.length < 47 → (∀ x ∈ w2, x < n) → lst ST2 w2.reverse → (σ 234 u = -1 → kX kT L xs (d + 2) 11 139 [(5, .int (nI u)), (4, .int (nI i)), (3, .int (nI w2.length)), (2, .int (nI m2.length)), (0, .ref 13), (1, .int (nI t))] [] (lvU σ ST2 VS2) (fun r σ' => ∃ ST VS, r = some (.int (nI (tvs (σ 233) (σ 234) (σ 235) t).length)) ∧ σ' = lvU σ ST VS ∧ lst VS (tvs (σ 233) (σ 234) (σ 235) t) ∧ (tvs (σ 233) (σ 234) (σ 235) t).length ≤ 24)) → (∀ x, x < n → σ 234 u = nI x → kX kT L xs (d + 2) 11 139 [(5, .int (nI u)), (4, .int (nI i)), (3, .int (nI (x :: w2).length)), (2, .int (nI m2.length)), (0, .ref 13), (1, .int (nI t))] [] (lvU σ (upd ST2 w2.length (nI x)) VS2) (fun r σ' => ∃ ST VS, r = some (.int (nI (tvs (σ 233) (σ 234) (σ 235) t).length)) ∧ σ' = lvU σ ST VS ∧ lst VS (tvs (σ 233) (σ 234) (σ 235) t) ∧ (tvs (σ 233) (σ 234) (σ 235) t).length ≤ 24)) → kX kT L xs (d + 2) 11 100 [(5, .int (nI u)), (4, .int (nI i)), (3, .int (nI w2.length)), (2, .int (nI m2.length)), (0, .ref 13), (1, .int (nI t))] [] (lvU σ ST2 VS2) (fun r σ' => ∃ ST VS, r = some (.int (nI (tvs (σ 233) (σ 234) (σ 235) t).length)) ∧ σ' = lvU σ ST VS ∧ lst VS (tvs (σ 233) (σ 234) (σ 235) t) ∧ (tvs (σ 233) (σ 234) (σ 235) t).length ≤ 24) := by
          intro w2 m2 ST2 VS2 x1 x2 x3 x4 x5
          iterate 6 (refine kX_one rfl ?_)
          refine kX_ialdN rfl rfl (by decide) (u) (by first | rfl | decide) (by omega) ?_
          refine kX_cal (mc_has L xs d (lvU σ ST2 VS2) n _ hn h.2.1) rfl (Or.inr rfl) rfl rfl rfl (fun r1 σ1 q1 => ?_)
          obtain ⟨rfl, rfl⟩ := q1
          repeat refine kX_one rfl ?_
          refine kX_if (fun q3 => ?_) (fun q3 => ?_)
          · have q3 : ¬ isN (σ 3 u) n := fun e => isB_ne.mpr e (qeq q3)
            refine x4 ?_
            rw [a2] at q3
            rcases (mTb_num hI u u1).2 with ⟨k, -, -, q1, -⟩ | ⟨k, x, y, -, -, q1, -, -, -, z1, -⟩ | ⟨k, x, -, -, q1, -, -, z1⟩
            · exact q1
            · exact absurd ⟨x, z1, q1⟩ q3
            · exact absurd ⟨x, z1, q1⟩ q3
          · obtain ⟨z, z1, z2⟩ := isB_ne.mp (qeqF q3)
            have z2 : σ 3 u = nI z := z2
            iterate 7 (refine kX_one rfl ?_)
            refine kX_ialdV rfl rfl (by decide) (u) (by first | rfl | decide) (by omega) (z2) ?_
            refine kX_iastN rfl rfl (by decide) (w2.length) (by first | rfl | decide) (by omega) ?_
            iterate 1 (refine kX_one rfl ?_)
            have := x5 z z1 (a2.symm.trans z2)
            rw [List.length_cons, ← nI_1] at this
            refine kX_to _ _ rfl rfl rfl ?_ this
            funext c; unfold lvU va_up; repeat' split
            all_goals first | rfl | omega | (subst_vars; rfl) | (funext j; unfold upd; repeat' split; all_goals first | rfl | omega | (subst_vars; rfl))
        have k61 : ∀ (m2 : List Nat) VS2, (σ 235 u = -1 → kX kT L xs (d + 2) 11 100 [(5, .int (nI u)), (4, .int (nI i)), (3, .int (nI l.length)), (2, .int (nI m2.length)), (0, .ref 13), (1, .int (nI t))] [] (lvU σ ST VS2) (fun r σ' => ∃ ST VS, r = some (.int (nI (tvs (σ 233) (σ 234) (σ 235) t).length)) ∧ σ' = lvU σ ST VS ∧ lst VS (tvs (σ 233) (σ 234) (σ 235) t) ∧ (tvs (σ 233) (σ 234) (σ 235) t).length ≤ 24)) → (∀ x, x < n → σ 235 u = nI x → kX kT L xs (d + 2) 11 100 [(5, .int (nI u)), (4, .int (nI i)), (3, .int (nI (x :: l).length)), (2, .int (nI m2.length)), (0, .ref 13), (1, .int (nI t))] [] (lvU σ (upd ST l.length (nI x)) VS2) (fun r σ' => ∃ ST VS, r = some (.int (nI (tvs (σ 233) (σ 234) (σ 235) t).length)) ∧ σ' = lvU σ ST VS ∧ lst VS (tvs (σ 233) (σ 234) (σ 235) t) ∧ (tvs (σ 233) (σ 234) (σ 235) t).length ≤ 24)) → kX kT L xs (d + 2) 11 61 [(5, .int (nI u)), (4, .int (nI i)), (3, .int (nI l.length)), (2, .int (nI m2.length)), (0, .ref 13), (1, .int (nI t))] [] (lvU σ ST VS2) (fun r σ' => ∃ ST VS, r = some (.int (nI (tvs (σ 233) (σ 234) (σ 235) t).length)) ∧ σ' = lvU σ ST VS ∧ lst VS (tvs (σ 233) (σ 234) (σ 235) t) ∧ (tvs (σ 233) (σ 234) (σ 235) t).length ≤ 24) := by
          intro m2 VS2 x4 x5
          iterate 6 (refine kX_one rfl ?_)
          refine kX_ialdN rfl rfl (by decide) (u) (by first | rfl | decide) (by omega) ?_
          refine kX_cal (mc_has L xs d (lvU σ ST VS2) n _ hn h.2.1) rfl (Or.inr rfl) rfl rfl rfl (fun r1 σ1 q1 => ?_)
          obtain ⟨rfl, rfl⟩ := q1
          repeat refine kX_one rfl ?_
          refine kX_if (fun q3 => ?_) (fun q3 => ?_)
          · have q3 : ¬ isN (σ 4 u) n := fun e => isB_ne.mpr e (qeq q3)
            refine x4 ?_
            rw [a3] at q3
            rcases (mTb_num hI u u1).2 with ⟨k, -, -, -, q1⟩ | ⟨k, x, y, -, -, -, q1, -, -, -, z1⟩ | ⟨k, x, -, -, -, q1, -, -⟩
            · exact q1
            · exact absurd ⟨y, z1, q1⟩ q3
            · exact q1
          · obtain ⟨z, z1, z2⟩ := isB_ne.mp (qeqF q3)
            have z2 : σ 4 u = nI z := z2
            iterate 7 (refine kX_one rfl ?_)
            refine kX_ialdV rfl rfl (by decide) (u) (by first | rfl | decide) (by omega) (z2) ?_
            refine kX_iastN rfl rfl (by decide) (l.length) (by first | rfl | decide) (by omega) ?_
            iterate 1 (refine kX_one rfl ?_)
            have := x5 z z1 (a3.symm.trans z2)
            rw [List.length_cons, ← nI_1] at this
            refine kX_to _ _ rfl rfl rfl ?_ this
            funext c; unfold lvU va_up; repeat' split
            all_goals first | rfl | omega | (subst_vars; rfl) | (funext j; unfold upd; repeat' split; all_goals first | rfl | omega | (subst_vars; rfl))
        have hpush : ∀ (w2 : List Nat) ST2 x, lst ST2 w2.reverse → lst (upd ST2 w2.length (nI x)) (x :: w2).reverse := fun w2 ST2 x hx => by
          rw [List.reverse_cons]
          have := lst_push hx x
          rw [List.length_reverse] at this
          exact this
        iterate 1 (refine kX_one rfl ?_)
        refine kX_lv [(3, .int (nI l.length)), (4, .int (nI i)), (2, .int (nI acc.length)), (0, .ref 13), (1, .int (nI t))] rfl rfl ?_ ?_
        · rw [show nI l.length = nI (l.length + 1) + Int32.ofInt (-1) from (pk_m1 _).symm]
          rfl
        iterate 3 (refine kX_one rfl ?_)
        refine kX_ialdV rfl rfl (by decide) (l.length) (by first | rfl | decide) (by omega) (u2) ?_
        iterate 5 (refine kX_one rfl ?_)
        refine kX_ialdN rfl rfl (by decide) (u) (by first | rfl | decide) (by omega) ?_
        iterate 1 (refine kX_one rfl ?_)
        rcases (mTb_num hI u u1).2 with ⟨k, k3, kk, q1, q3⟩ | ⟨k, x, y, k3, kk, q1, q3, x1, y1, x2, y2⟩ | ⟨k, x, k3, kk, q1, q3, x1, x2⟩
        · have ez : tsz (σ 233) (σ 234) (σ 235) u = 1 := tA_0 kk k3
          have ev : tvs (σ 233) (σ 234) (σ 235) u = if σ 233 u = nI 3 then [u] else [] := tA_0 kk k3
          have no1 : ∀ x : Nat, x < n → (-1 : Int32) ≠ nI x := fun x hx e => nI_m1 (by omega) e.symm
          repeat refine kX_one rfl ?_
          refine kX_if (fun q5 => ?_) (fun q5 => ?_)
          · have q5 : σ 233 u ≠ nI 3 := fun e => qne q5 (a1.trans e)
            rw [if_neg q5] at ev
            refine kX_lv _ rfl rfl rfl (k61 acc VS (fun _ => k100 l acc ST VS (by omega) hl' i4' (fun _ => k139 l acc ST VS (by rw [tzL]; omega) hl' (by omega) i4' i5 (by rw [tvL, ev] at i6; exact i6)) (fun x hx e => absurd (q1.symm.trans e) (no1 x hx))) (fun x hx e => absurd (q3.symm.trans e) (no1 x hx)))
          · have q5 : σ 233 u = nI 3 := a1.symm.trans (qneF q5)
            rw [if_pos q5] at ev
            iterate 4 (refine kX_one rfl ?_)
            refine kX_iastN rfl rfl (by decide) (acc.length) (by first | rfl | decide) (by omega) ?_
            iterate 1 (refine kX_one rfl ?_)
            have hacc : (acc ++ [u]).length = acc.length + 1 := by rw [List.length_append]; rfl
            have := k61 (acc ++ [u]) (upd VS acc.length (nI u)) (fun _ => k100 l (acc ++ [u]) ST (upd VS acc.length (nI u)) (by omega) hl' i4' (fun _ => k139 l (acc ++ [u]) ST (upd VS acc.length (nI u)) (by rw [tzL]; omega) hl' (by omega) i4' (lst_push i5 u) (by rw [tvL, ev] at i6; rw [List.append_assoc]; exact i6)) (fun x hx e => absurd (q1.symm.trans e) (no1 x hx))) (fun x hx e => absurd (q3.symm.trans e) (no1 x hx))
            rw [hacc, ← nI_1] at this
            refine kX_to _ _ rfl rfl rfl ?_ this
            funext c; unfold lvU va_up; repeat' split
            all_goals first | rfl | omega | (subst_vars; rfl) | (funext j; unfold upd; repeat' split; all_goals first | rfl | omega | (subst_vars; rfl))
        · have ez : tsz (σ 233) (σ 234) (σ 235) u = 1 + tsz (σ 233) (σ 234) (σ 235) x + tsz (σ 233) (σ 234) (σ 235) y := tA_2 (mTb_num hI) kk q1 q3 (by omega) (by omega) x1 y1 x2 y2
          have ev : tvs (σ 233) (σ 234) (σ 235) u = tvs (σ 233) (σ 234) (σ 235) x ++ tvs (σ 233) (σ 234) (σ 235) y := tA_2 (mTb_num hI) kk q1 q3 (by omega) (by omega) x1 y1 x2 y2
          repeat refine kX_one rfl ?_
          refine kX_if (fun q5 => ?_) (fun q5 => ?_)
          rotate_left
          · exfalso
            have : σ 233 u = nI 3 := a1.symm.trans (qneF q5)
            have := nI_inj (kk.symm.trans this)
            omega
          · refine kX_lv _ rfl rfl rfl (k61 acc VS (fun e => absurd (q3.symm.trans e) (nI_m1 (by omega))) (fun y' hy' e => ?_))
            obtain rfl : y = y' := nI_inj (q3.symm.trans e)
            have hl2 : ∀ z ∈ y :: l, z < n := fun z hz => by
              rcases List.mem_cons.mp hz with rfl | hz
              · exact hy'
              · exact hl' z hz
            refine k100 (y :: l) acc (upd ST l.length (nI y)) VS (by rw [List.length_cons]; omega) hl2 (hpush l ST y i4') (fun e => absurd (q1.symm.trans e) (nI_m1 (by omega))) (fun x' hx' e => ?_)
            obtain rfl : x = x' := nI_inj (q1.symm.trans e)
            refine k139 (x :: y :: l) acc _ VS (by rw [tzL, tzL, tzL, ez]; omega) (fun z hz => ?_) (by omega) (hpush (y :: l) _ x (hpush l ST y i4')) i5 ?_
            · rcases List.mem_cons.mp hz with rfl | hz
              · exact hx'
              · exact hl2 z hz
            · rw [tvL, ev, List.append_assoc] at i6
              rw [tvL, tvL]
              exact i6
        · have ez : tsz (σ 233) (σ 234) (σ 235) u = 1 + tsz (σ 233) (σ 234) (σ 235) x + 0 := tA_1 (mTb_num hI) kk q1 q3 (by omega) (by omega) x1 x2
          have ev : tvs (σ 233) (σ 234) (σ 235) u = tvs (σ 233) (σ 234) (σ 235) x ++ [] := tA_1 (mTb_num hI) kk q1 q3 (by omega) (by omega) x1 x2
          repeat refine kX_one rfl ?_
          refine kX_if (fun q5 => ?_) (fun q5 => ?_)
          rotate_left
          · exfalso
            have : σ 233 u = nI 3 := a1.symm.trans (qneF q5)
            have := nI_inj (kk.symm.trans this)
            omega
          · refine kX_lv _ rfl rfl rfl (k61 acc VS (fun _ => k100 l acc ST VS (by omega) hl' i4' (fun e => absurd (q1.symm.trans e) (nI_m1 (by omega))) (fun x' hx' e => ?_)) (fun y' hy' e => absurd (q3.symm.trans e).symm (nI_m1 (by omega))))
            obtain rfl : x = x' := nI_inj (q1.symm.trans e)
            refine k139 (x :: l) acc _ VS (by rw [tzL, tzL, ez]; omega) (fun z hz => ?_) (by omega) (hpush l ST x i4') i5 ?_
            · rcases List.mem_cons.mp hz with rfl | hz
              · exact hx'
              · exact hl' z hz
            · rw [tvL, ev, List.append_nil] at i6
              rw [tvL]
              exact i6
  iterate 8 (refine kX_one rfl ?_)
  refine kX_iastN rfl rfl (by decide) (0) (by first | rfl | decide) (by decide) ?_
  iterate 2 (refine kX_one rfl ?_)
  have := loop (0, [t], [], upd (σ 20) 0 (nI t), σ 21) ⟨by simp only [tzL]; omega, fun u hu => by rw [List.mem_singleton.mp hu]; exact ht, Nat.le_refl _, fun i hi => by
    have hi : i < 1 := hi
    obtain rfl : i = 0 := by omega
    show upd (σ 20) 0 (nI t) 0 = nI t
    exact pk_us, lst_nil _, by simp only [tvL, List.append_nil, List.nil_append]⟩
  refine kX_to _ _ rfl rfl rfl ?_ this
  funext c; unfold lvU va_up; repeat' split
  all_goals first | rfl | omega | (subst_vars; rfl) | (funext j; unfold upd; repeat' split; all_goals first | rfl | omega | (subst_vars; rfl))
