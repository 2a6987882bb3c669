section
/-! alike: event, what the class asks -/
def tvL (σ : kS) : List Nat → List Nat
  | [] => []
  | u :: l => tvs (σ 233) (σ 234) (σ 235) u ++ tvL σ l
def tzL (σ : kS) : List Nat → Nat
  | [] => 0
  | u :: l => tsz (σ 233) (σ 234) (σ 235) u + tzL σ l
theorem tszP {σ : kS} {n b u : Nat} (h : mTb σ n b) (hu : u < n) : 1 ≤ tsz (σ 233) (σ 234) (σ 235) u := by
  unfold tsz
  rcases (mTb_num h u hu).2 with ⟨k, h3, hk, -, -⟩ | ⟨k, x, y, h3, hk, hx, hy, h4, h5, h6, h7⟩ | ⟨k, x, h3, hk, hx, hy, h4, h6⟩
  · rw [tA_0 hk h3]
    exact Nat.le_refl 1
  · rw [tA_2 (mTb_num h) hk hx hy (by omega) (by omega) h4 h5 h6 h7]
    omega
  · rw [tA_1 (mTb_num h) hk hx hy (by omega) (by omega) h4 h6]
    omega
theorem tzL_len {σ : kS} {n b : Nat} (h : mTb σ n b) : ∀ l : List Nat, (∀ u ∈ l, u < n) → l.length ≤ tzL σ l
  | [], _ => Nat.le_refl _
  | u :: l, hl => by
    have h1 := tszP h (hl u List.mem_cons_self)
    have h2 := tzL_len h l (fun x hx => hl x (List.mem_cons_of_mem _ hx))
    rw [List.length_cons, tzL]
    omega
set_option maxRecDepth 100000 in
set_option maxHeartbeats 4000000 in
theorem mf_listVars (L : Nat) (xs : Nat → Int32) (d : Nat) (σ : kS) (n b t : Nat) (h : cT σ n) (hI : mTb σ n b) (hA : aT σ n) (ht : t < n) : kXM kT L xs (d + 2) 11 [.ref 13, .int (nI t)] σ (fun r σ' => ∃ ST VS, r = some (.int (nI (tvs (σ 233) (σ 234) (σ 235) t).length)) ∧ σ' = lvU σ ST VS ∧ lst VS (tvs (σ 233) (σ 234) (σ 235) t) ∧ (tvs (σ 233) (σ 234) (σ 235) t).length ≤ 24) := by
  have hn := h.1
  have h24 : tsz (σ 233) (σ 234) (σ 235) t ≤ 24 := hI.2.2.2.2.2.2.2.2.2 t ht
  unfold kXM
  have loop : ∀ q : Nat × List Nat × List Nat × (Nat → Int32) × (Nat → Int32), (q.1 + tzL σ q.2.1 ≤ 24 ∧ (∀ u ∈ q.2.1, u < n) ∧ q.2.2.1.length ≤ q.1 ∧ lst q.2.2.2.1 q.2.1.reverse ∧ lst q.2.2.2.2 q.2.2.1 ∧ q.2.2.1 ++ tvL σ q.2.1 = tvs (σ 233) (σ 234) (σ 235) t) → kX kT L xs (d + 2) 11 14 [(4, .int (nI q.1)), (3, .int (nI q.2.1.length)), (2, .int (nI q.2.2.1.length)), (0, .ref 13), (1, .int (nI t))] [] (lvU σ q.2.2.2.1 q.2.2.2.2) (fun r σ' => ∃ ST VS, r = some (.int (nI (tvs (σ 233) (σ 234) (σ 235) t).length)) ∧ σ' = lvU σ ST VS ∧ lst VS (tvs (σ 233) (σ 234) (σ 235) t) ∧ (tvs (σ 233) (σ 234) (σ 235) t).length ≤ 24) := by
    refine kX_while (fun q : Nat × List Nat × List Nat × (Nat → Int32) × (Nat → Int32) => [(4, .int (nI q.1)), (3, .int (nI q.2.1.length)), (2, .int (nI q.2.2.1.length)), (0, .ref 13), (1, .int (nI t))]) (fun q => lvU σ q.2.2.2.1 q.2.2.2.2) _ (fun q => 24 - q.1) ?_
    rintro ⟨i, st, acc, ST, VS⟩ ⟨i1, i2, i3, i4, i5, i6⟩ ih
    dsimp only at i1 i2 i3 i4 i5 i6 ih ⊢
    have hlen := tzL_len hI st i2
    have k145 : st = [] → kX kT L xs (d + 2) 11 145 [(4, .int (nI i)), (3, .int (nI st.length)), (2, .int (nI acc.length)), (0, .ref 13), (1, .int (nI t))] [] (lvU σ ST VS) (fun r σ' => ∃ ST VS, r = some (.int (nI (tvs (σ 233) (σ 234) (σ 235) t).length)) ∧ σ' = lvU σ ST VS ∧ lst VS (tvs (σ 233) (σ 234) (σ 235) t) ∧ (tvs (σ 233) (σ 234) (σ 235) t).length ≤ 24) := by
      intro e
      rw [e, tvL, List.append_nil] at i6
      iterate 1 (refine kX_one rfl ?_)
      refine kX_ret (i := .ireturn) (len := 1) rfl (Or.inr rfl) rfl (⟨ST, VS, by rw [i6], rfl, by rw [← i6]; exact i5, by rw [← i6]; omega⟩)
    iterate 2 (refine kX_one rfl ?_)
    repeat refine kX_one rfl ?_
    refine kX_if (fun q => ?_) (fun q => ?_)
    · have q := qge q i 24
      exact k145 (List.length_eq_zero_iff.mp (by omega))
    · have q := qgeF q i 24
      iterate 1 (refine kX_one rfl ?_)
      repeat refine kX_one rfl ?_
      refine kX_if (fun q2 => ?_) (fun q2 => ?_)
      · have q2 := qle q2 st.length 0
        exact k145 (List.length_eq_zero_iff.mp (by omega))
      · have q2 := qleF q2 st.length 0
        obtain ⟨u, l, rfl⟩ : ∃ u l, st = u :: l := by
          cases st with
          | nil => exact absurd q2 (Nat.lt_irrefl 0)
          | cons u l => exact ⟨u, l, rfl⟩
        have u1 : u < n := i2 u List.mem_cons_self
        rw [List.reverse_cons] at i4
        obtain ⟨u2, i4'⟩ := lst_pop i4
        rw [List.length_reverse] at u2
        rw [tzL] at i1
        have hl' : ∀ x ∈ l, x < n := fun x hx => i2 x (List.mem_cons_of_mem _ hx)
        have hll := tzL_len hI l hl'
        obtain ⟨a1, a2, a3, -⟩ := hA.1 u u1
        have k139 : ∀ (w2 : List Nat) (m2 : List Nat) ST2 VS2, tzL σ w2 + 1 ≤ tzL σ (u :: l) → (∀ x ∈ w2, x < n) → m2.length ≤ acc.length + 1 → lst ST2 w2.reverse → lst VS2 m2 → m2 ++ tvL σ w2 = tvs (σ 233) (σ 234) (σ 235) t → kX kT L xs (d + 2) 11 139 [(5, .int (nI u)), (4, .int (nI i)), (3, .int (nI w2.length)), (2, .int (nI m2.length)), (0, .ref 13), (1, .int (nI t))] [] (lvU σ ST2 VS2) (fun r σ' => ∃ ST VS, r = some (.int (nI (tvs (σ 233) (σ 234) (σ 235) t).length)) ∧ σ' = lvU σ ST VS ∧ lst VS (tvs (σ 233) (σ 234) (σ 235) t) ∧ (tvs (σ 233) (σ 234) (σ 235) t).length ≤ 24) := by
          intro w2 m2 ST2 VS2 x1 x2 x3 x4 x5 x6
          rw [tzL] at x1
          iterate 2 (refine kX_one rfl ?_)
          have := ih (i + 1, w2, m2, ST2, VS2) ⟨by simp only; omega, x2, by simp only; omega, x4, x5, x6⟩ (by simp only; omega)
          dsimp only at this
          rw [← nI_1] at this
          exact kX_lv _ rfl rfl rfl this
        have k100 : ∀ (w2 : List Nat) (m2 : List Nat) ST2 VS2, w2.length < 47 → (∀ x ∈ w2, x < n) → lst ST2 w2.reverse → (σ 234 u = -1 → kX kT L xs (d + 2) 11 139 [(5, .int (nI u)), (4, .int (nI i)), (3, .int (nI w2.length)), (2, .int (nI m2.length)), (0, .ref 13), (1, .int (nI t))] [] (lvU σ ST2 VS2) (fun r σ' => ∃ ST VS, r = some (.int (nI (tvs (σ 233) (σ 234) (σ 235) t).length)) ∧ σ' = lvU σ ST VS ∧ lst VS (tvs (σ 233) (σ 234) (σ 235) t) ∧ (tvs (σ 233) (σ 234) (σ 235) t).length ≤ 24)) → (∀ x, x < n → σ 234 u = nI x → kX kT L xs (d + 2) 11 139 [(5, .int (nI u)), (4, .int (nI i)), (3, .int (nI (x :: w2).length)), (2, .int (nI m2.length)), (0, .ref 13), (1, .int (nI t))] [] (lvU σ (upd ST2 w2.length (nI x)) VS2) (fun r σ' => ∃ ST VS, r = some (.int (nI (tvs (σ 233) (σ 234) (σ 235) t).length)) ∧ σ' = lvU σ ST VS ∧ lst VS (tvs (σ 233) (σ 234) (σ 235) t) ∧ (tvs (σ 233) (σ 234) (σ 235) t).length ≤ 24)) → kX kT L xs (d + 2) 11 100 [(5, .int (nI u)), (4, .int (nI i)), (3, .int (nI w2.length)), (2, .int (nI m2.length)), (0, .ref 13), (1, .int (nI t))] [] (lvU σ ST2 VS2) (fun r σ' => ∃ ST VS, r = some (.int (nI (tvs (σ 233) (σ 234) (σ 235) t).length)) ∧ σ' = lvU σ ST VS ∧ lst VS (tvs (σ 233) (σ 234) (σ 235) t) ∧ (tvs (σ 233) (σ 234) (σ 235) t).length ≤ 24) := by
          intro w2 m2 ST2 VS2 x1 x2 x3 x4 x5
          iterate 6 (refine kX_one rfl ?_)
          refine kX_ialdN rfl rfl (by decide) (u) (by first | rfl | decide) (by omega) ?_
          refine kX_cal (mc_has L xs d (lvU σ ST2 VS2) n _ hn h.2.1) rfl (Or.inr rfl) rfl rfl rfl (fun r1 σ1 q1 => ?_)
          obtain ⟨rfl, rfl⟩ := q1
          repeat refine kX_one rfl ?_
          refine kX_if (fun q3 => ?_) (fun q3 => ?_)
          · have q3 : ¬ isN (σ 3 u) n := fun e => isB_ne.mpr e (qeq q3)
            refine x4 ?_
            rw [a2] at q3
            rcases (mTb_num hI u u1).2 with ⟨k, -, -, q1, -⟩ | ⟨k, x, y, -, -, q1, -, -, -, z1, -⟩ | ⟨k, x, -, -, q1, -, -, z1⟩
            · exact q1
            · exact absurd ⟨x, z1, q1⟩ q3
            · exact absurd ⟨x, z1, q1⟩ q3
          · obtain ⟨z, z1, z2⟩ := isB_ne.mp (qeqF q3)
            have z2 : σ 3 u = nI z := z2
            iterate 7 (refine kX_one rfl ?_)
            refine kX_ialdV rfl rfl (by decide) (u) (by first | rfl | decide) (by omega) (z2) ?_
            refine kX_iastN rfl rfl (by decide) (w2.length) (by first | rfl | decide) (by omega) ?_
            iterate 1 (refine kX_one rfl ?_)
            have := x5 z z1 (a2.symm.trans z2)
            rw [List.length_cons, ← nI_1] at this
            refine kX_to _ _ rfl rfl rfl ?_ this
            funext c; unfold lvU; first
              | ((repeat (refine va_case ?_ ?_; (· (intro h; first | (subst h; rfl) | (unfold va_up; repeat' split; (all_goals first | rfl | omega | (subst_vars; rfl) | (funext j; unfold upd; repeat' split; all_goals first | rfl | omega | (subst_vars; rfl)))))); intro h)); (repeat (refine va_case2 ?_ ?_; (· (intro h; first | exact absurd h (by assumption) | (subst h; rfl) | (subst h; funext j; unfold upd; repeat' split; (all_goals first | rfl | omega | (subst_vars; rfl))))); intro h)); rfl)
              | (unfold va_up; repeat' split
                 all_goals first | rfl | omega | (subst_vars; rfl) | (funext j; unfold upd; repeat' split; all_goals first | rfl | omega | (subst_vars; rfl)))
        have k61 : ∀ (m2 : List Nat) VS2, (σ 235 u = -1 → kX kT L xs (d + 2) 11 100 [(5, .int (nI u)), (4, .int (nI i)), (3, .int (nI l.length)), (2, .int (nI m2.length)), (0, .ref 13), (1, .int (nI t))] [] (lvU σ ST VS2) (fun r σ' => ∃ ST VS, r = some (.int (nI (tvs (σ 233) (σ 234) (σ 235) t).length)) ∧ σ' = lvU σ ST VS ∧ lst VS (tvs (σ 233) (σ 234) (σ 235) t) ∧ (tvs (σ 233) (σ 234) (σ 235) t).length ≤ 24)) → (∀ x, x < n → σ 235 u = nI x → kX kT L xs (d + 2) 11 100 [(5, .int (nI u)), (4, .int (nI i)), (3, .int (nI (x :: l).length)), (2, .int (nI m2.length)), (0, .ref 13), (1, .int (nI t))] [] (lvU σ (upd ST l.length (nI x)) VS2) (fun r σ' => ∃ ST VS, r = some (.int (nI (tvs (σ 233) (σ 234) (σ 235) t).length)) ∧ σ' = lvU σ ST VS ∧ lst VS (tvs (σ 233) (σ 234) (σ 235) t) ∧ (tvs (σ 233) (σ 234) (σ 235) t).length ≤ 24)) → kX kT L xs (d + 2) 11 61 [(5, .int (nI u)), (4, .int (nI i)), (3, .int (nI l.length)), (2, .int (nI m2.length)), (0, .ref 13), (1, .int (nI t))] [] (lvU σ ST VS2) (fun r σ' => ∃ ST VS, r = some (.int (nI (tvs (σ 233) (σ 234) (σ 235) t).length)) ∧ σ' = lvU σ ST VS ∧ lst VS (tvs (σ 233) (σ 234) (σ 235) t) ∧ (tvs (σ 233) (σ 234) (σ 235) t).length ≤ 24) := by
          intro m2 VS2 x4 x5
          iterate 6 (refine kX_one rfl ?_)
          refine kX_ialdN rfl rfl (by decide) (u) (by first | rfl | decide) (by omega) ?_
          refine kX_cal (mc_has L xs d (lvU σ ST VS2) n _ hn h.2.1) rfl (Or.inr rfl) rfl rfl rfl (fun r1 σ1 q1 => ?_)
          obtain ⟨rfl, rfl⟩ := q1
          repeat refine kX_one rfl ?_
          refine kX_if (fun q3 => ?_) (fun q3 => ?_)
          · have q3 : ¬ isN (σ 4 u) n := fun e => isB_ne.mpr e (qeq q3)
            refine x4 ?_
            rw [a3] at q3
            rcases (mTb_num hI u u1).2 with ⟨k, -, -, -, q1⟩ | ⟨k, x, y, -, -, -, q1, -, -, -, z1⟩ | ⟨k, x, -, -, -, q1, -, -⟩
            · exact q1
            · exact absurd ⟨y, z1, q1⟩ q3
            · exact q1
          · obtain ⟨z, z1, z2⟩ := isB_ne.mp (qeqF q3)
            have z2 : σ 4 u = nI z := z2
            iterate 7 (refine kX_one rfl ?_)
            refine kX_ialdV rfl rfl (by decide) (u) (by first | rfl | decide) (by omega) (z2) ?_
            refine kX_iastN rfl rfl (by decide) (l.length) (by first | rfl | decide) (by omega) ?_
            iterate 1 (refine kX_one rfl ?_)
            have := x5 z z1 (a3.symm.trans z2)
            rw [List.length_cons, ← nI_1] at this
            refine kX_to _ _ rfl rfl rfl ?_ this
            funext c; unfold lvU; first
              | ((repeat (refine va_case ?_ ?_; (· (intro h; first | (subst h; rfl) | (unfold va_up; repeat' split; (all_goals first | rfl | omega | (subst_vars; rfl) | (funext j; unfold upd; repeat' split; all_goals first | rfl | omega | (subst_vars; rfl)))))); intro h)); (repeat (refine va_case2 ?_ ?_; (· (intro h; first | exact absurd h (by assumption) | (subst h; rfl) | (subst h; funext j; unfold upd; repeat' split; (all_goals first | rfl | omega | (subst_vars; rfl))))); intro h)); rfl)
              | (unfold va_up; repeat' split
                 all_goals first | rfl | omega | (subst_vars; rfl) | (funext j; unfold upd; repeat' split; all_goals first | rfl | omega | (subst_vars; rfl)))
        have hpush : ∀ (w2 : List Nat) ST2 x, lst ST2 w2.reverse → lst (upd ST2 w2.length (nI x)) (x :: w2).reverse := fun w2 ST2 x hx => by
          rw [List.reverse_cons]
          have := lst_push hx x
          rw [List.length_reverse] at this
          exact this
        iterate 1 (refine kX_one rfl ?_)
        refine kX_lv [(3, .int (nI l.length)), (4, .int (nI i)), (2, .int (nI acc.length)), (0, .ref 13), (1, .int (nI t))] rfl rfl ?_ ?_
        · rw [show nI l.length = nI (l.length + 1) + Int32.ofInt (-1) from (pk_m1 _).symm]
          rfl
        iterate 3 (refine kX_one rfl ?_)
        refine kX_ialdV rfl rfl (by decide) (l.length) (by first | rfl | decide) (by omega) (u2) ?_
        iterate 5 (refine kX_one rfl ?_)
        refine kX_ialdN rfl rfl (by decide) (u) (by first | rfl | decide) (by omega) ?_
        iterate 1 (refine kX_one rfl ?_)
        rcases (mTb_num hI u u1).2 with ⟨k, k3, kk, q1, q3⟩ | ⟨k, x, y, k3, kk, q1, q3, x1, y1, x2, y2⟩ | ⟨k, x, k3, kk, q1, q3, x1, x2⟩
        · have ez : tsz (σ 233) (σ 234) (σ 235) u = 1 := tA_0 kk k3
          have ev : tvs (σ 233) (σ 234) (σ 235) u = if σ 233 u = nI 3 then [u] else [] := tA_0 kk k3
          have no1 : ∀ x : Nat, x < n → (-1 : Int32) ≠ nI x := fun x hx e => nI_m1 (by omega) e.symm
          repeat refine kX_one rfl ?_
          refine kX_if (fun q5 => ?_) (fun q5 => ?_)
          · have q5 : σ 233 u ≠ nI 3 := fun e => qne q5 (a1.trans e)
            rw [if_neg q5] at ev
            refine kX_lv _ rfl rfl rfl (k61 acc VS (fun _ => k100 l acc ST VS (by omega) hl' i4' (fun _ => k139 l acc ST VS (by rw [tzL]; omega) hl' (by omega) i4' i5 (by rw [tvL, ev] at i6; exact i6)) (fun x hx e => absurd (q1.symm.trans e) (no1 x hx))) (fun x hx e => absurd (q3.symm.trans e) (no1 x hx)))
          · have q5 : σ 233 u = nI 3 := a1.symm.trans (qneF q5)
            rw [if_pos q5] at ev
            iterate 4 (refine kX_one rfl ?_)
            refine kX_iastN rfl rfl (by decide) (acc.length) (by first | rfl | decide) (by omega) ?_
            iterate 1 (refine kX_one rfl ?_)
            have hacc : (acc ++ [u]).length = acc.length + 1 := by rw [List.length_append]; rfl
            have := k61 (acc ++ [u]) (upd VS acc.length (nI u)) (fun _ => k100 l (acc ++ [u]) ST (upd VS acc.length (nI u)) (by omega) hl' i4' (fun _ => k139 l (acc ++ [u]) ST (upd VS acc.length (nI u)) (by rw [tzL]; omega) hl' (by omega) i4' (lst_push i5 u) (by rw [tvL, ev] at i6; rw [List.append_assoc]; exact i6)) (fun x hx e => absurd (q1.symm.trans e) (no1 x hx))) (fun x hx e => absurd (q3.symm.trans e) (no1 x hx))
            rw [hacc, ← nI_1] at this
            refine kX_to _ _ rfl rfl rfl ?_ this
            funext c; unfold lvU; first
              | ((repeat (refine va_case ?_ ?_; (· (intro h; first | (subst h; rfl) | (unfold va_up; repeat' split; (all_goals first | rfl | omega | (subst_vars; rfl) | (funext j; unfold upd; repeat' split; all_goals first | rfl | omega | (subst_vars; rfl)))))); intro h)); (repeat (refine va_case2 ?_ ?_; (· (intro h; first | exact absurd h (by assumption) | (subst h; rfl) | (subst h; funext j; unfold upd; repeat' split; (all_goals first | rfl | omega | (subst_vars; rfl))))); intro h)); rfl)
              | (unfold va_up; repeat' split
                 all_goals first | rfl | omega | (subst_vars; rfl) | (funext j; unfold upd; repeat' split; all_goals first | rfl | omega | (subst_vars; rfl)))
        · have ez : tsz (σ 233) (σ 234) (σ 235) u = 1 + tsz (σ 233) (σ 234) (σ 235) x + tsz (σ 233) (σ 234) (σ 235) y := tA_2 (mTb_num hI) kk q1 q3 (by omega) (by omega) x1 y1 x2 y2
          have ev : tvs (σ 233) (σ 234) (σ 235) u = tvs (σ 233) (σ 234) (σ 235) x ++ tvs (σ 233) (σ 234) (σ 235) y := tA_2 (mTb_num hI) kk q1 q3 (by omega) (by omega) x1 y1 x2 y2
          repeat refine kX_one rfl ?_
          refine kX_if (fun q5 => ?_) (fun q5 => ?_)
          rotate_left
          · exfalso
            have : σ 233 u = nI 3 := a1.symm.trans (qneF q5)
            have := nI_inj (kk.symm.trans this)
            omega
          · refine kX_lv _ rfl rfl rfl (k61 acc VS (fun e => absurd (q3.symm.trans e) (nI_m1 (by omega))) (fun y' hy' e => ?_))
            obtain rfl : y = y' := nI_inj (q3.symm.trans e)
            have hl2 : ∀ z ∈ y :: l, z < n := fun z hz => by
              rcases List.mem_cons.mp hz with rfl | hz
              · exact hy'
              · exact hl' z hz
            refine k100 (y :: l) acc (upd ST l.length (nI y)) VS (by rw [List.length_cons]; omega) hl2 (hpush l ST y i4') (fun e => absurd (q1.symm.trans e) (nI_m1 (by omega))) (fun x' hx' e => ?_)
            obtain rfl : x = x' := nI_inj (q1.symm.trans e)
            refine k139 (x :: y :: l) acc _ VS (by rw [tzL, tzL, tzL, ez]; omega) (fun z hz => ?_) (by omega) (hpush (y :: l) _ x (hpush l ST y i4')) i5 ?_
            · rcases List.mem_cons.mp hz with rfl | hz
              · exact hx'
              · exact hl2 z hz
            · rw [tvL, ev, List.append_assoc] at i6
              rw [tvL, tvL]
              exact i6
        · have ez : tsz (σ 233) (σ 234) (σ 235) u = 1 + tsz (σ 233) (σ 234) (σ 235) x + 0 := tA_1 (mTb_num hI) kk q1 q3 (by omega) (by omega) x1 x2
          have ev : tvs (σ 233) (σ 234) (σ 235) u = tvs (σ 233) (σ 234) (σ 235) x ++ [] := tA_1 (mTb_num hI) kk q1 q3 (by omega) (by omega) x1 x2
          repeat refine kX_one rfl ?_
          refine kX_if (fun q5 => ?_) (fun q5 => ?_)
          rotate_left
          · exfalso
            have : σ 233 u = nI 3 := a1.symm.trans (qneF q5)
            have := nI_inj (kk.symm.trans this)
            omega
          · refine kX_lv _ rfl rfl rfl (k61 acc VS (fun _ => k100 l acc ST VS (by omega) hl' i4' (fun e => absurd (q1.symm.trans e) (nI_m1 (by omega))) (fun x' hx' e => ?_)) (fun y' hy' e => absurd (q3.symm.trans e).symm (nI_m1 (by omega))))
            obtain rfl : x = x' := nI_inj (q1.symm.trans e)
            refine k139 (x :: l) acc _ VS (by rw [tzL, tzL, ez]; omega) (fun z hz => ?_) (by omega) (hpush l ST x i4') i5 ?_
            · rcases List.mem_cons.mp hz with rfl | hz
              · exact hx'
              · exact hl' z hz
            · rw [tvL, ev, List.append_nil] at i6
              rw [tvL]
              exact i6
  iterate 8 (refine kX_one rfl ?_)
  refine kX_iastN rfl rfl (by decide) (0) (by first | rfl | decide) (by decide) ?_
  iterate 2 (refine kX_one rfl ?_)
  have := loop (0, [t], [], upd (σ 20) 0 (nI t), σ 21) ⟨by simp only [tzL]; omega, fun u hu => by rw [List.mem_singleton.mp hu]; exact ht, Nat.le_refl _, fun i hi => by
    have hi : i < 1 := hi
    obtain rfl : i = 0 := by omega
    show upd (σ 20) 0 (nI t) 0 = nI t
    exact pk_us, lst_nil _, by simp only [tvL, List.append_nil, List.nil_append]⟩
  refine kX_to _ _ rfl rfl rfl ?_ this
  funext c; unfold lvU; first
    | ((repeat (refine va_case ?_ ?_; (· (intro h; first | (subst h; rfl) | (unfold va_up; repeat' split; (all_goals first | rfl | omega | (subst_vars; rfl) | (funext j; unfold upd; repeat' split; all_goals first | rfl | omega | (subst_vars; rfl)))))); intro h)); (repeat (refine va_case2 ?_ ?_; (· (intro h; first | exact absurd h (by assumption) | (subst h; rfl) | (subst h; funext j; unfold upd; repeat' split; (all_goals first | rfl | omega | (subst_vars; rfl))))); intro h)); rfl)
    | (unfold va_up; repeat' split
       all_goals first | rfl | omega | (subst_vars; rfl) | (funext j; unfold upd; repeat' split; all_goals first | rfl | omega | (subst_vars; rfl)))
end
section
/-! alike: event, what is bound -/
/-- VARIABLE x of the role r waits to be received -/
def wfr (σ : kS) (r v : Nat) (x : Int32) : Prop := ∃ k, k < v ∧ x = nI k ∧ σ (24 + 35 * r) k = 2 ∧ σ (26 + 35 * r) k = 0
set_option maxRecDepth 100000 in
set_option maxHeartbeats 4000000 in
theorem mf_waitsFor (L : Nat) (xs : Nat → Int32) (d : Nat) (σ : kS) (r v : Nat) (x : Int32) (hr : r < 4) (hv : v ≤ 6) (h : σ (23 + 35 * r) 3 = nI v) : kXM kT L xs (d + 2) 63 [.ref (23 + 35 * r), .int x] σ (fun q σ' => q = some (.int (isB (wfr σ r v x))) ∧ σ = σ') := by
  unfold kXM
  iterate 2 (refine kX_one rfl ?_)
  refine kX_cal (mc_roHas L xs d σ r v x hr hv h) rfl (Or.inr rfl) rfl (jcall_v rfl rfl rfl (kT_ro hr) rfl rfl) rfl (fun r1 σ1 q1 => ?_)
  obtain ⟨rfl, rfl⟩ := q1
  repeat refine kX_one rfl ?_
  refine kX_if (fun q => ?_) (fun q => ?_)
  · have q : ¬ isN x v := fun z => isB_ne.mpr z (qeq q)
    repeat refine kX_one rfl ?_
    refine kX_ret (i := .ireturn) (len := 1) rfl (Or.inr rfl) rfl (⟨rF (fun ⟨k, k1, k2, _⟩ => q ⟨k, k1, k2⟩), rfl⟩)
  · obtain ⟨k, k1, rfl⟩ := isB_ne.mp (qeqF q)
    iterate 1 (refine kX_one rfl ?_)
    refine kX_getN rfl rfl (kT_ro hr) rfl ?_
    iterate 1 (refine kX_one rfl ?_)
    refine kX_ialdN rfl (kT_ra hr) (by decide) (k) (by first | rfl | decide) (by omega) ?_
    iterate 1 (refine kX_one rfl ?_)
    repeat refine kX_one rfl ?_
    refine kX_if (fun q2 => ?_) (fun q2 => ?_)
    · have q2 : σ (24 + 35 * r) k ≠ 2 := qne q2
      repeat refine kX_one rfl ?_
      refine kX_ret (i := .ireturn) (len := 1) rfl (Or.inr rfl) rfl (⟨rF (fun ⟨k', k1', k2, k3, _⟩ => q2 (by rw [nI_inj k2]; exact k3)), rfl⟩)
    · have q2 : σ (24 + 35 * r) k = 2 := qneF q2
      iterate 1 (refine kX_one rfl ?_)
      refine kX_getN rfl rfl (kT_ro hr) rfl ?_
      iterate 1 (refine kX_one rfl ?_)
      refine kX_baldN rfl (kT_rr hr) (by decide) (k) (by first | rfl | decide) (by omega) ?_
      repeat refine kX_one rfl ?_
      refine kX_if (fun q3 => ?_) (fun q3 => ?_)
      · have q3 : σ (26 + 35 * r) k ≠ 0 := qne q3
        repeat refine kX_one rfl ?_
        refine kX_ret (i := .ireturn) (len := 1) rfl (Or.inr rfl) rfl (⟨rF (fun ⟨k', k1', k2, _, k3⟩ => q3 (by rw [nI_inj k2]; exact k3)), rfl⟩)
      · have q3 : σ (26 + 35 * r) k = 0 := qneF q3
        repeat refine kX_one rfl ?_
        refine kX_ret (i := .ireturn) (len := 1) rfl (Or.inr rfl) rfl (⟨rT ⟨k, k1, rfl, q2, q3⟩, rfl⟩)
/-- the VARIABLE u may stand in an EVENT of the role r -/
def okC (σ : kS) (r v : Nat) (b : Int32) (u : Nat) : Prop := σ 10 u = nI r ∧ (b ≠ 0 → ¬ wfr σ r v (σ 12 u))
set_option maxRecDepth 100000 in
set_option maxHeartbeats 4000000 in
theorem mf_mayBeEvent (L : Nat) (xs : Nat → Int32) (d : Nat) (σ : kS) (n b0 R r t v : Nat) (b : Int32) (h : cT σ n) (hI : mTb σ n b0) (hA : aT σ n) (hR : R ≤ 4) (hr : r < R) (ht : t < n) (hv : v ≤ 6) (hvc : σ (23 + 35 * r) 3 = nI v) : kXM kT L xs (d + 3) 8 [.ref 13, .int (nI r), .int b, .int (nI t)] σ (fun q σ' => q = some (.int (isB (∀ u ∈ tvs (σ 233) (σ 234) (σ 235) t, okC σ r v b u))) ∧ ∃ ST VS, σ' = lvU σ ST VS) := by
  have hn := h.1
  have hr4 : r < 4 := by omega
  unfold kXM
  iterate 2 (refine kX_one rfl ?_)
  refine kX_cal (mf_listVars L xs d σ n b0 t h hI hA ht) rfl (Or.inr rfl) rfl rfl rfl (fun r1 σ1 q1 => ?_)
  obtain ⟨ST, VS, rfl, rfl, hl, m1⟩ := q1
  have hlt : ∀ u ∈ tvs (σ 233) (σ 234) (σ 235) t, u < n := fun u hu => (tvs_mem (mTb_num hI) t ht u hu).1
  generalize hvl : tvs (σ 233) (σ 234) (σ 235) t = vl at *
  have hlv : ∀ e, e ≠ 20 → e ≠ 21 → lvU σ ST VS e = σ e := fun e x1 x2 => by
    unfold lvU
    rw [up_ne x2, up_ne x1]
  have hvc2 : lvU σ ST VS (23 + 35 * r) 3 = nI v := by
    rw [hlv _ (by omega) (by omega)]
    exact hvc
  have hwf : ∀ x, wfr (lvU σ ST VS) r v x ↔ wfr σ r v x := fun x => by
    unfold wfr
    rw [hlv (24 + 35 * r) (by omega) (by omega), hlv (26 + 35 * r) (by omega) (by omega)]
  have loop : ∀ i : Nat, (i ≤ vl.length ∧ ∀ j (hj : j < vl.length), j < i → okC σ r v b vl[j]) → kX kT L xs (d + 3) 8 10 [(5, .int (nI i)), (4, .int (nI vl.length)), (0, .ref 13), (1, .int (nI r)), (2, .int b), (3, .int (nI t))] [] (lvU σ ST VS) (fun q σ' => q = some (.int (isB (∀ u ∈ vl, okC σ r v b u))) ∧ ∃ ST VS, σ' = lvU σ ST VS) := by
    refine kX_while (fun i : Nat => [(5, .int (nI i)), (4, .int (nI vl.length)), (0, .ref 13), (1, .int (nI r)), (2, .int b), (3, .int (nI t))]) (fun _ => lvU σ ST VS) _ (fun i => vl.length - i) ?_
    rintro i ⟨hi, hok⟩ ih
    iterate 2 (refine kX_one rfl ?_)
    repeat refine kX_one rfl ?_
    refine kX_if (fun q => ?_) (fun q => ?_)
    · have q := qge q i vl.length
      have hall : ∀ u ∈ vl, okC σ r v b u := fun u hu => by
        obtain ⟨j, hj, rfl⟩ := List.mem_iff_getElem.mp hu
        exact hok j hj (by omega)
      repeat refine kX_one rfl ?_
      refine kX_ret (i := .ireturn) (len := 1) rfl (Or.inr rfl) rfl (⟨rT hall, ST, VS, rfl⟩)
    · have q := qgeF q i vl.length
      have u2 := hl i q
      have u1 := hlt vl[i] (List.getElem_mem q)
      have hmem := List.getElem_mem q
      generalize hu : vl[i] = u at u1 u2 hmem
      have k70 : okC σ r v b u → kX kT L xs (d + 3) 8 70 [(6, .int (nI u)), (5, .int (nI i)), (4, .int (nI vl.length)), (0, .ref 13), (1, .int (nI r)), (2, .int b), (3, .int (nI t))] [] (lvU σ ST VS) (fun q σ' => q = some (.int (isB (∀ u ∈ vl, okC σ r v b u))) ∧ ∃ ST VS, σ' = lvU σ ST VS) := by
        intro hk
        iterate 2 (refine kX_one rfl ?_)
        have := ih (i + 1) ⟨q, fun j hj hji => by
          by_cases e : j = i
          · subst e
            rw [hu]
            exact hk
          · exact hok j hj (by omega)⟩ (by omega)
        rw [← nI_1] at this
        exact kX_lv _ rfl rfl rfl this
      iterate 3 (refine kX_one rfl ?_)
      refine kX_ialdV rfl rfl (by decide) (i) (by first | rfl | decide) (by omega) (u2) ?_
      iterate 5 (refine kX_one rfl ?_)
      refine kX_ialdN rfl rfl (by decide) (u) (by first | rfl | decide) (by omega) ?_
      iterate 1 (refine kX_one rfl ?_)
      repeat refine kX_one rfl ?_
      refine kX_if (fun q2 => ?_) (fun q2 => ?_)
      · have q2 : σ 10 u = nI r := qeq q2
        iterate 1 (refine kX_one rfl ?_)
        repeat refine kX_one rfl ?_
        refine kX_if (fun q3 => ?_) (fun q3 => ?_)
        · exact k70 ⟨q2, fun z => absurd (qeq q3) z⟩
        · have q3 := qeqF q3
          iterate 3 (refine kX_one rfl ?_)
          refine kX_aaldN rfl (rfl) (by decide) (by decide) (by decide) (r) (by first | rfl | decide) (hr4) (ro_at hr4) ?_
          iterate 4 (refine kX_one rfl ?_)
          refine kX_ialdN rfl rfl (by decide) (u) (by first | rfl | decide) (by omega) ?_
          refine kX_cal (mf_waitsFor L xs d (lvU σ ST VS) r v _ hr4 hv hvc2) rfl (Or.inr rfl) rfl (jcall_v rfl rfl rfl (kT_ro hr4) rfl rfl) rfl (fun r1 σ1 q1 => ?_)
          obtain ⟨rfl, rfl⟩ := q1
          rw [propext (hwf _)]
          repeat refine kX_one rfl ?_
          refine kX_if (fun q4 => ?_) (fun q4 => ?_)
          · exact k70 ⟨q2, fun _ z => isB_ne.mpr z (qeq q4)⟩
          · have q4 := isB_ne.mp (qeqF q4)
            repeat refine kX_one rfl ?_
            refine kX_ret (i := .ireturn) (len := 1) rfl (Or.inr rfl) rfl (⟨rF (fun e => (e u hmem).2 q3 q4), ST, VS, rfl⟩)
      · have q2 : σ 10 u ≠ nI r := qeqF q2
        repeat refine kX_one rfl ?_
        refine kX_ret (i := .ireturn) (len := 1) rfl (Or.inr rfl) rfl (⟨rF (fun e => q2 (e u hmem).1), ST, VS, rfl⟩)
  iterate 3 (refine kX_one rfl ?_)
  exact kX_lv _ rfl rfl rfl (loop 0 ⟨Nat.zero_le _, fun j hj hz => absurd hz (Nat.not_lt_zero j)⟩)
/-- what is bound so far: of the VARIABLES vl, each once -/
noncomputable def bdL (σ : kS) (r v : Nat) (vl : List Nat) : List Nat := fl (fun u => wfr σ r v (σ 12 u)) (ddl [] vl)
theorem fl_app {P : Nat → Prop} : ∀ (l : List Nat) (x : Nat), fl P (l ++ [x]) = fl P l ++ cit (P x) [x] []
  | [], x => by
    show cit (P x) (x :: fl P []) (fl P []) = [] ++ cit (P x) [x] []
    rfl
  | y :: l, x => by
    show cit (P y) (y :: fl P (l ++ [x])) (fl P (l ++ [x])) = cit (P y) (y :: fl P l) (fl P l) ++ cit (P x) [x] []
    rw [fl_app l x]
    by_cases h : P y
    · rw [cit_T h, cit_T h]
      rfl
    · rw [cit_F h, cit_F h]
theorem bdL_step {σ : kS} {r v u : Nat} {l : List Nat} : bdL σ r v (l ++ [u]) = cit (wfr σ r v (σ 12 u) ∧ ¬ u ∈ l) (bdL σ r v l ++ [u]) (bdL σ r v l) := by
  unfold bdL
  rw [ddl_app]
  show fl _ (if u ∈ ddl [] l then ddl [] l else ddl [] l ++ [u]) = _
  have hm : u ∈ ddl [] l ↔ u ∈ l := by
    rw [ddl_mem]
    exact ⟨fun q => q.elim (fun q => by cases q) id, Or.inr⟩
  by_cases h : u ∈ l
  · rw [if_pos (hm.mpr h), cit_F (fun z => z.2 h)]
  · rw [if_neg (fun z => h (hm.mp z)), fl_app]
    by_cases hw : wfr σ r v (σ 12 u)
    · rw [cit_T hw, cit_T ⟨hw, h⟩]
    · rw [cit_F hw, cit_F (fun z => hw z.1), List.append_nil]
theorem bdL_mem {σ : kS} {r v u : Nat} {l : List Nat} : u ∈ bdL σ r v l ↔ u ∈ l ∧ wfr σ r v (σ 12 u) := by
  unfold bdL
  rw [fl_mem, ddl_mem]
  exact ⟨fun q => ⟨q.1.elim (fun q => by cases q) id, q.2⟩, fun q => ⟨Or.inr q.1, q.2⟩⟩
theorem bdL_nd {σ : kS} {r v : Nat} {l : List Nat} : (bdL σ r v l).Pairwise (fun x y => x ≠ y) := fl_nd (ddl_nd _ _ List.Pairwise.nil)
/-- what bindIn has done -/
def bnG (σ τ : kS) (r v a : Nat) (bl : List Nat) : Prop := τ a 4 = nI bl.length ∧ (∀ j (h : j < bl.length), τ (a + 1) j = σ 12 (bl[j]'h) ∧ τ (a + 2) j = σ (25 + 35 * r) (fN (σ 12 (bl[j]'h)))) ∧ ∀ k, k < v → (τ (26 + 35 * r) k = 0 ↔ σ (26 + 35 * r) k = 0 ∧ ∀ u ∈ bl, σ 12 u ≠ nI k)
theorem bdL_le {σ : kS} {r v i : Nat} {l : List Nat} : (bdL σ r v (l.take i)).length ≤ (bdL σ r v l).length := by
  have key : ∀ (a b : List Nat), (bdL σ r v a).length ≤ (bdL σ r v (a ++ b)).length := by
    intro a b
    induction b generalizing a with
    | nil => rw [List.append_nil]; exact Nat.le_refl _
    | cons x b ih =>
      have h1 : (bdL σ r v a).length ≤ (bdL σ r v (a ++ [x])).length := by
        rw [bdL_step]
        by_cases h : wfr σ r v (σ 12 x) ∧ ¬ x ∈ a
        · rw [cit_T h, List.length_append]
          omega
        · rw [cit_F h]
          exact Nat.le_refl _
      have h2 := ih (a ++ [x])
      rw [List.append_assoc] at h2
      exact Nat.le_trans h1 h2
  have := key (l.take i) (l.drop i)
  rw [List.take_append_drop] at this
  exact this
set_option maxRecDepth 100000 in
set_option maxHeartbeats 4000000 in
theorem mf_bindIn (L : Nat) (xs : Nat → Int32) (d : Nat) (σ : kS) (n b0 r k t v : Nat) (h : cT σ n) (hI : mTb σ n b0) (hA : aT σ n) (hpl : ∀ u ∈ tvs (σ 233) (σ 234) (σ 235) t, ∃ k, k < v ∧ σ 12 u = nI k) (hinj : ∀ u ∈ tvs (σ 233) (σ 234) (σ 235) t, ∀ w ∈ tvs (σ 233) (σ 234) (σ 235) t, σ 12 u = σ 12 w → u = w) (h6 : (bdL σ r v (tvs (σ 233) (σ 234) (σ 235) t)).length ≤ 6) (hr : r < 4) (hk : k < 6) (ht : t < n) (hv : v ≤ 6) (hvc : σ (23 + 35 * r) 3 = nI v) (hso : ∀ j, j < v → ∃ so, so ≤ 3 ∧ σ (25 + 35 * r) j = nI so) (hte : σ (28 + 35 * r + 5 * k) 1 = nI t) (hbc : σ (28 + 35 * r + 5 * k) 4 = 0) : kXM kT L xs (d + 3) 10 [.ref 13, .ref (23 + 35 * r), .ref (28 + 35 * r + 5 * k)] σ (fun q σ' => q = none ∧ ∃ ST VS, bnF (lvU σ ST VS) σ' r (28 + 35 * r + 5 * k) ∧ bnI σ' (28 + 35 * r + 5 * k) (bdL σ r v (tvs (σ 233) (σ 234) (σ 235) t)).length ∧ bnG σ σ' r v (28 + 35 * r + 5 * k) (bdL σ r v (tvs (σ 233) (σ 234) (σ 235) t))) := by
  have hn := h.1
  unfold kXM
  iterate 2 (refine kX_one rfl ?_)
  refine kX_getN rfl rfl (kT_ev hr hk) rfl ?_
  refine kX_top (hte) ?_
  refine kX_cal (mf_listVars L xs d σ n b0 t h hI hA ht) rfl (Or.inr rfl) rfl rfl rfl (fun r1 σ1 q1 => ?_)
  obtain ⟨ST, VS, rfl, rfl, hl, c1⟩ := q1
  have hlt : ∀ u ∈ tvs (σ 233) (σ 234) (σ 235) t, u < n := fun u hu => (tvs_mem (mTb_num hI) t ht u hu).1
  generalize hvl : tvs (σ 233) (σ 234) (σ 235) t = vl at *
  have hlv : ∀ e, e ≠ 20 → e ≠ 21 → lvU σ ST VS e = σ e := fun e x1 x2 => by
    unfold lvU
    rw [up_ne x2, up_ne x1]
  have hVS : lvU σ ST VS 21 = VS := rfl
  generalize hρ : lvU σ ST VS = ρ at *
  generalize ha : 28 + 35 * r + 5 * k = a at *
  have haa : 28 + 35 * r ≤ a ∧ a + 5 ≤ 58 + 35 * r := by omega
  have hEv := kT_ev hr hk
  have hE1 := kT_e1 (i := 1) hr hk (Or.inl rfl)
  have hE2 := kT_e1 (i := 2) hr hk (Or.inr rfl)
  rw [ha] at hEv hE1 hE2
  have loop : ∀ q : Nat × kS × Nat, (q.1 ≤ vl.length ∧ bnF ρ q.2.1 r a ∧ bnI q.2.1 a q.2.2 ∧ q.2.2 = (bdL σ r v (vl.take q.1)).length ∧ bnG σ q.2.1 r v a (bdL σ r v (vl.take q.1))) → kX kT L xs (d + 3) 10 12 [(4, .int (nI q.1)), (3, .int (nI vl.length)), (0, .ref 13), (1, .ref (23 + 35 * r)), (2, .ref a)] [] q.2.1 (fun q σ' => q = none ∧ ∃ ST VS, bnF (lvU σ ST VS) σ' r a ∧ bnI σ' a (bdL σ r v vl).length ∧ bnG σ σ' r v a (bdL σ r v vl)) := by
    refine kX_while (fun q : Nat × kS × Nat => [(4, .int (nI q.1)), (3, .int (nI vl.length)), (0, .ref 13), (1, .ref (23 + 35 * r)), (2, .ref a)]) (fun q => q.2.1) _ (fun q => vl.length - q.1) ?_
    rintro ⟨i, τ, m⟩ ⟨i1, ⟨f1, f2⟩, ⟨m6, i3, i4⟩, i5, i6⟩ ih
    dsimp only at i1 f1 f2 m6 i3 i4 i5 i6 ih ⊢
    iterate 2 (refine kX_one rfl ?_)
    repeat refine kX_one rfl ?_
    refine kX_if (fun q => ?_) (fun q => ?_)
    · have q := qge q i vl.length
      rw [List.take_of_length_le (by omega)] at i5 i6
      subst i5
      repeat refine kX_one rfl ?_
      refine kX_ret (i := .return_) (len := 1) rfl (Or.inr rfl) rfl ⟨rfl, ST, VS, ?_, ⟨m6, i3, i4⟩, i6⟩
      rw [hρ]
      exact ⟨f1, f2⟩
    · have q := qgeF q i vl.length
      have u2 := hl i q
      have u1 := hlt vl[i] (List.getElem_mem q)
      have hmem := List.getElem_mem q
      have htk : vl.take (i + 1) = vl.take i ++ [vl[i]] := List.take_succ_eq_append_getElem q
      generalize hu : vl[i] = u at u1 u2 hmem htk
      have hst := bdL_step (σ := σ) (r := r) (v := v) (u := u) (l := vl.take i)
      rw [← htk] at hst
      obtain ⟨p, p1, p2⟩ := hpl u hmem
      have hpo : wfr τ r v (τ 12 u) ↔ wfr σ r v (σ 12 u) ∧ ¬ u ∈ vl.take i := by
        have e12 : τ 12 = σ 12 := by rw [f1 _ (by omega) (by omega) (by omega) (by omega), hlv _ (by decide) (by decide)]
        have e24 : τ (24 + 35 * r) = σ (24 + 35 * r) := by rw [f1 _ (by omega) (by omega) (by omega) (by omega), hlv _ (by omega) (by omega)]
        rw [e12, p2]
        constructor
        · rintro ⟨k', k1, k2, k3, k4⟩
          obtain rfl : p = k' := nI_inj k2
          rw [e24] at k3
          obtain ⟨k5, k6⟩ := (i6.2.2 p k1).mp k4
          refine ⟨⟨p, k1, rfl, k3, k5⟩, fun hin => ?_⟩
          exact k6 u (bdL_mem.mpr ⟨hin, by rw [p2]; exact ⟨p, k1, rfl, k3, k5⟩⟩) p2
        · rintro ⟨⟨k', k1, k2, k3, k4⟩, hno⟩
          obtain rfl : p = k' := nI_inj k2
          refine ⟨p, k1, rfl, by rw [e24]; exact k3, (i6.2.2 p k1).mpr ⟨k4, fun w hw e => ?_⟩⟩
          have hw2 := (bdL_mem.mp hw).1
          exact hno ((hinj u hmem w (List.mem_of_mem_take hw2) (p2.trans e.symm)) ▸ hw2)
      have k98 : ∀ (y : Int32) τ' m', bnF ρ τ' r a → bnI τ' a m' → m' = (bdL σ r v (vl.take (i + 1))).length → bnG σ τ' r v a (bdL σ r v (vl.take (i + 1))) → kX kT L xs (d + 3) 10 98 [(5, .int y), (4, .int (nI i)), (3, .int (nI vl.length)), (0, .ref 13), (1, .ref (23 + 35 * r)), (2, .ref a)] [] τ' (fun q σ' => q = none ∧ ∃ ST VS, bnF (lvU σ ST VS) σ' r a ∧ bnI σ' a (bdL σ r v vl).length ∧ bnG σ σ' r v a (bdL σ r v vl)) := by
        intro y τ' m' x1 x2 x3 x4
        iterate 2 (refine kX_one rfl ?_)
        have := ih (i + 1, τ', m') ⟨q, x1, x2, x3, x4⟩ (by simp only; omega)
        dsimp only at this
        rw [← nI_1] at this
        exact kX_lv _ rfl rfl rfl this
      have e21 : τ 21 i = nI u := by
        rw [f1 _ (by omega) (by omega) (by omega) (by omega), hVS]
        exact u2
      have hvc2 : τ (23 + 35 * r) 3 = nI v := by
        rw [f1 _ (by omega) (by omega) (by omega) (by omega), hlv _ (by omega) (by omega)]
        exact hvc
      iterate 6 (refine kX_one rfl ?_)
      refine kX_ialdV rfl rfl (by decide) (i) (by first | rfl | decide) (by omega) (e21) ?_
      refine kX_ialdN rfl rfl (by decide) (u) (by first | rfl | decide) (by omega) ?_
      iterate 3 (refine kX_one rfl ?_)
      refine kX_cal (mf_waitsFor L xs (d + 0) τ r v _ hr hv hvc2) rfl (Or.inr rfl) rfl (jcall_v rfl rfl rfl (kT_ro hr) rfl rfl) rfl (fun r1 σ1 q1 => ?_)
      obtain ⟨rfl, rfl⟩ := q1
      repeat refine kX_one rfl ?_
      refine kX_if (fun qw => ?_) (fun qw => ?_)
      · have qw : ¬ (wfr σ r v (σ 12 u) ∧ ¬ u ∈ vl.take i) := fun e => isB_ne.mpr (hpo.mpr e) (qeq qw)
        rw [cit_F qw] at hst
        exact kX_lv _ rfl rfl rfl (k98 _ τ m ⟨f1, f2⟩ ⟨m6, i3, i4⟩ (by rw [hst]; exact i5) (by rw [hst]; exact i6))
      · have qw := hpo.mp (isB_ne.mp (qeqF qw))
        rw [cit_T qw] at hst
        have p2s : σ 12 u = nI p := p2
        have p2 : τ 12 u = nI p := by rw [f1 _ (by omega) (by omega) (by omega) (by omega), hlv _ (by decide) (by decide)]; exact p2s
        obtain ⟨so, so1, so2⟩ := hso p p1
        have hm5 : m < 6 := by
          have hsub : (bdL σ r v (vl.take (i + 1))).length ≤ (bdL σ r v vl).length := bdL_le
          rw [hst, List.length_append] at hsub
          simp only [List.length_cons, List.length_nil] at hsub
          omega
        iterate 1 (refine kX_one rfl ?_)
        refine kX_getN rfl rfl (hEv) rfl ?_
        refine kX_top (i3) ?_
        iterate 1 (refine kX_one rfl ?_)
        repeat refine kX_one rfl ?_
        refine kX_if (fun q2 => ?_) (fun q2 => ?_)
        · have q2 := qge q2 m 6
          omega
        · have q2 := qgeF q2 m 6
          refine kX_lv [(5, .int (nI p)), (4, .int (nI i)), (3, .int (nI vl.length)), (0, .ref 13), (1, .ref (23 + 35 * r)), (2, .ref a)] rfl rfl (by rw [← p2]; rfl) ?_
          iterate 1 (refine kX_one rfl ?_)
          refine kX_getN rfl rfl (kT_ro hr) rfl ?_
          iterate 2 (refine kX_one rfl ?_)
          refine kX_bastN rfl (kT_rr hr) (by decide) (p) (by first | rfl | decide) (by omega) (Or.inr rfl) ?_
          iterate 1 (refine kX_one rfl ?_)
          refine kX_getN rfl rfl (hEv) rfl ?_
          iterate 1 (refine kX_one rfl ?_)
          refine kX_getN rfl rfl (hEv) rfl ?_
          refine kX_top (y := nI m) (by rw [up_ne (by omega)]; exact i3) ?_
          iterate 1 (refine kX_one rfl ?_)
          refine kX_iastN rfl (hE1) (by decide) (m) (by first | rfl | decide) (q2) ?_
          iterate 1 (refine kX_one rfl ?_)
          refine kX_getN rfl rfl (hEv) rfl ?_
          iterate 1 (refine kX_one rfl ?_)
          refine kX_getN rfl rfl (hEv) rfl ?_
          refine kX_top (y := nI m) (by rw [up_ne (by omega), up_ne (by omega)]; exact i3) ?_
          iterate 1 (refine kX_one rfl ?_)
          refine kX_getN rfl rfl (kT_ro hr) rfl ?_
          iterate 1 (refine kX_one rfl ?_)
          refine kX_ialdV rfl (kT_rs hr) (by decide) (p) (by first | rfl | decide) (by omega) ((congrFun (up_ne (by omega)) p).trans ((congrFun (up_ne (by omega)) p).trans ((congrFun (f1 _ (by omega) (by omega) (by omega) (by omega)) p).trans ((congrFun (hlv _ (by omega) (by omega)) p).trans so2)))) ?_
          refine kX_iastN rfl (hE2) (by decide) (m) (by first | rfl | decide) (q2) ?_
          iterate 2 (refine kX_one rfl ?_)
          refine kX_getN rfl rfl (hEv) rfl ?_
          refine kX_top (y := nI m) (by rw [up_ne (by omega), up_ne (by omega), up_ne (by omega)]; exact i3) ?_
          iterate 2 (refine kX_one rfl ?_)
          refine kX_putN rfl rfl (hEv) rfl (rfl) rfl ?_
          refine kX_lv _ rfl rfl rfl (k98 (nI p) _ (m + 1) ⟨fun e x1 x2 x3 x4 => ?_, fun j hj => ?_⟩ ⟨by omega, ?_, fun j hj => ?_⟩ (by rw [hst, List.length_append, i5]; rfl) ?_)
          · rw [up_ne x2, up_ne x4, up_ne x3, up_ne x1]
            exact f1 e x1 x2 x3 x4
          · rw [up_eq, up_ne (by omega), up_ne (by omega), up_ne (by omega)]
            exact (pk_un hj).trans (f2 j hj)
          · rw [up_eq, ← nI_1]
            exact pk_us
          · rw [up_ne (show a + 1 ≠ a by omega), up_ne (show a + 1 ≠ a + 2 by omega), up_eq, up_ne (show a + 2 ≠ a by omega), up_eq, up_ne (show a + 1 ≠ 26 + 35 * r by omega)]
            rw [up_ne (show a + 2 ≠ a + 1 by omega), up_ne (show a + 2 ≠ 26 + 35 * r by omega)]
            by_cases e : j = m
            · subst e
              rw [pk_us, pk_us]
              exact ⟨⟨p, by omega, rfl⟩, so, so1, rfl⟩
            · rw [pk_un e, pk_un e]
              exact i4 j (by omega)
          · rw [hst]
            unfold bnG
            rw [up_ne (show a + 1 ≠ a by omega), up_ne (show a + 1 ≠ a + 2 by omega), up_eq, up_ne (show a + 2 ≠ a by omega), up_eq, up_ne (show a + 1 ≠ 26 + 35 * r by omega), up_ne (show a + 2 ≠ a + 1 by omega), up_ne (show a + 2 ≠ 26 + 35 * r by omega), up_eq, up_ne (show 26 + 35 * r ≠ a by omega), up_ne (show 26 + 35 * r ≠ a + 2 by omega), up_ne (show 26 + 35 * r ≠ a + 1 by omega), up_eq]
            refine ⟨?_, fun j hj => ?_, fun k' hk' => ?_⟩
            · rw [List.length_append, ← i5]
              show upd _ 4 (nI m + 1) 4 = nI (m + 1)
              rw [pk_us, nI_1]
            · rw [List.length_append] at hj
              simp only [List.length_cons, List.length_nil] at hj
              by_cases e : j = m
              · subst e
                have ee : (bdL σ r v (vl.take i) ++ [u])[j]'(by rw [List.length_append, ← i5]; exact Nat.lt_succ_self _) = u := by
                  rw [List.getElem_append_right (by omega)]
                  simp
                rw [ee, pk_us, pk_us, p2s, fN_nI (by omega)]
                exact ⟨rfl, so2.symm⟩
              · have hj' : j < (bdL σ r v (vl.take i)).length := by omega
                rw [List.getElem_append_left hj', pk_un e, pk_un e]
                exact i6.2.1 j hj'
            · by_cases e : k' = p
              · subst e
                rw [pk_us]
                refine ⟨fun z => absurd z (by decide), fun z => absurd p2s (z.2 u (List.mem_append.mpr (Or.inr (List.mem_singleton.mpr rfl))))⟩
              · rw [pk_un e, i6.2.2 k' hk']
                refine and_congr_right (fun _ => ⟨fun z w hw => ?_, fun z w hw => z w (List.mem_append.mpr (Or.inl hw))⟩)
                rcases List.mem_append.mp hw with hw | hw
                · exact z w hw
                · rw [List.mem_singleton.mp hw, p2s]
                  exact nI_ne (fun q => e q.symm)
  iterate 3 (refine kX_one rfl ?_)
  have := loop (0, ρ, 0) ⟨Nat.zero_le _, ⟨fun _ _ _ _ _ => rfl, fun _ _ => rfl⟩, ⟨Nat.zero_le _, (congrFun (hlv a (by omega) (by omega)) _).trans hbc, fun j hj => absurd hj (Nat.not_lt_zero j)⟩, rfl, (congrFun (hlv a (by omega) (by omega)) _).trans hbc, fun j hj => absurd hj (Nat.not_lt_zero j), fun k' hk' => by
    simp only
    rw [hlv _ (by omega) (by omega)]
    exact ⟨fun z => ⟨z, fun w hw => by cases hw⟩, fun z => z.1⟩⟩
  exact kX_lv _ rfl rfl rfl this
end
section
/-! alike: event, its plan -/
theorem opn_c {σ : kS} {n b u : Nat} (h : mTb σ n b) (hA : aT σ n) (hu : u < n) : (σ 8 u = 0 ∧ σ 2 u ≠ 3) ↔ opn σ u := by
  obtain ⟨a1, a2, a3, a4, a5, -⟩ := hA.1 u hu
  rw [a5, h.2.2.2.2.2.2.1 u (Or.inl hu), bI_eq, a1]
  exact Iff.rfl
/-- an open TERM's parts -/
theorem opn_2 {σ : kS} {n b u : Nat} (h : mTb σ n b) (hu : u < n) (ho : opn σ u) : ∃ x, x < u ∧ σ 234 u = nI x ∧ ((∃ y, y < u ∧ σ 235 u = nI y ∧ tvs (σ 233) (σ 234) (σ 235) u = tvs (σ 233) (σ 234) (σ 235) x ++ tvs (σ 233) (σ 234) (σ 235) y) ∨ (σ 235 u = -1 ∧ tvs (σ 233) (σ 234) (σ 235) u = tvs (σ 233) (σ 234) (σ 235) x ++ [])) := by
  rcases (mTb_num h u hu).2 with ⟨k, k3, kk, -, -⟩ | ⟨k, x, y, k3, kk, q1, q3, x1, y1, x2, y2⟩ | ⟨k, x, k3, kk, q1, q3, x1, x2⟩
  · exfalso
    have e : tgd (σ 233) (σ 234) (σ 235) u = decide (σ 233 u ≠ nI 3) := tA_0 kk k3
    rw [ho.1] at e
    exact ho.2 (Classical.byContradiction (fun z => by rw [decide_eq_true z] at e; cases e))
  · exact ⟨x, x1, q1, Or.inl ⟨y, y1, q3, tA_2 (mTb_num h) kk q1 q3 (by omega) (by omega) x1 y1 x2 y2⟩⟩
  · exact ⟨x, x1, q1, Or.inr ⟨q3, tA_1 (mTb_num h) kk q1 q3 (by omega) (by omega) x1 x2⟩⟩
/-- marks: of the parts of t, from K on closed -/
def mkI (σ : kS) (TL : List Nat) (t : Nat) (LV : Nat → Int32) (K : Nat) : Prop := (∀ j, j < 200 → LV j = -1 ∨ LV j = 0) ∧ (∀ j, j < 200 → LV j = 0 → j ∈ TL) ∧ (K ≤ t → LV t = 0) ∧ ∀ u, K ≤ u → u ≤ t → LV u = 0 → opn σ u → LV (fN (σ 234 u)) = 0 ∧ (σ 235 u = -1 ∨ LV (fN (σ 235 u)) = 0)
theorem mkI_up {σ : kS} {TL : List Nat} {t K x : Nat} {LV : Nat → Int32} (h : mkI σ TL t LV K) (hx : x ∈ TL) (hK : x < K ∨ (x = t ∧ ¬ K ≤ t)) : mkI σ TL t (upd LV x 0) K := by
  obtain ⟨h1, h2, h3, h4⟩ := h
  have mono : ∀ j, LV j = 0 → upd LV x 0 j = 0 := fun j hj => by
    by_cases e : j = x
    · subst e
      exact pk_us
    · rw [pk_un e]
      exact hj
  refine ⟨fun j hj => ?_, fun j hj hz => ?_, fun q => mono _ (h3 q), fun u u1 u2 u3 u4 => ?_⟩
  · by_cases e : j = x
    · subst e
      exact Or.inr pk_us
    · rw [pk_un e]
      exact h1 j hj
  · by_cases e : j = x
    · subst e
      exact hx
    · rw [pk_un e] at hz
      exact h2 j hj hz
  · rw [pk_un (by omega)] at u3
    obtain ⟨g1, g2⟩ := h4 u u1 u2 u3 u4
    exact ⟨mono _ g1, g2.imp id (mono _)⟩
set_option maxRecDepth 100000 in
set_option maxHeartbeats 4000000 in
theorem mf_markParts (L : Nat) (xs : Nat → Int32) (d : Nat) (σ : kS) (n b0 r k t : Nat) (h : cT σ n) (hI : mTb σ n b0) (hA : aT σ n) (TL : List Nat) (hTt : t ∈ TL) (hTL : ∀ u ∈ TL, u ≤ t ∧ (∀ x, σ 234 u = nI x → x < 100000 → x ∈ TL) ∧ (∀ y, σ 235 u = nI y → y < 100000 → y ∈ TL)) (hr : r < 4) (hk : k < 6) (ht : t < n) (hte : σ (28 + 35 * r + 5 * k) 1 = nI t) : kXM kT L xs (d + 3) 42 [.ref (28 + 35 * r + 5 * k), .ref 1, .ref 22] σ (fun q σ' => q = none ∧ ∃ LV, σ' = va_up σ 22 LV ∧ mkI σ TL t LV 0) := by
  have hn := h.1
  have hEv := kT_ev hr hk
  generalize ha : 28 + 35 * r + 5 * k = a at *
  unfold kXM
  have loop : ∀ q : Nat × (Nat → Int32), (q.1 ≤ t + 1 ∧ mkI σ TL t q.2 q.1) → kX kT L xs (d + 3) 42 19 [(3, .int (nI q.1 - 1)), (0, .ref a), (1, .ref 1), (2, .ref 22)] [] (va_up σ 22 q.2) (fun q σ' => q = none ∧ ∃ LV, σ' = va_up σ 22 LV ∧ mkI σ TL t LV 0) := by
    refine kX_while (fun q : Nat × (Nat → Int32) => [(3, .int (nI q.1 - 1)), (0, .ref a), (1, .ref 1), (2, .ref 22)]) (fun q => va_up σ 22 q.2) _ (fun q => q.1) ?_
    rintro ⟨K, LV⟩ ⟨i1, i2⟩ ih
    dsimp only at i1 i2 ih ⊢
    rcases Nat.eq_zero_or_pos K with rfl | hK
    · iterate 2 (refine kX_one rfl ?_)
      refine kX_ret (i := .return_) (len := 1) rfl (Or.inr rfl) rfl (⟨rfl, LV, rfl, i2⟩)
    · obtain ⟨u, rfl⟩ : ∃ u, K = u + 1 := ⟨K - 1, by omega⟩
      rw [nI_pred]
      have k84 : ∀ LV', mkI σ TL t LV' u → kX kT L xs (d + 3) 42 84 [(3, .int (nI u)), (0, .ref a), (1, .ref 1), (2, .ref 22)] [] (va_up σ 22 LV') (fun q σ' => q = none ∧ ∃ LV, σ' = va_up σ 22 LV ∧ mkI σ TL t LV 0) := by
        intro LV' hm
        iterate 2 (refine kX_one rfl ?_)
        have := ih (u, LV') ⟨by simp only; omega, hm⟩ (by simp only; omega)
        dsimp only at this
        rw [← nI_dec] at this
        exact kX_lv _ rfl rfl rfl this
      have k35 : ∀ LV', mkI σ TL t LV' (u + 1) → (u = t → LV' t = 0) → kX kT L xs (d + 3) 42 35 [(3, .int (nI u)), (0, .ref a), (1, .ref 1), (2, .ref 22)] [] (va_up σ 22 LV') (fun q σ' => q = none ∧ ∃ LV, σ' = va_up σ 22 LV ∧ mkI σ TL t LV 0) := by
        intro LV' hm ht0
        have hun : u < n := by omega
        -- u itself has nothing to hand on
        have hk : (LV' u = 0 → opn σ u → LV' (fN (σ 234 u)) = 0 ∧ (σ 235 u = -1 ∨ LV' (fN (σ 235 u)) = 0)) → mkI σ TL t LV' u := fun hq => ⟨hm.1, hm.2.1, fun z => by
          by_cases e : u = t
          · exact ht0 e
          · exact hm.2.2.1 (by omega), fun w w1 w2 w3 w4 => by
          by_cases e : w = u
          · subst e
            exact hq w3 w4
          · exact hm.2.2.2 w (by omega) w2 w3 w4⟩
        iterate 2 (refine kX_one rfl ?_)
        refine kX_ialdN rfl rfl (by decide) (u) (by first | rfl | decide) (by omega) ?_
        iterate 1 (refine kX_one rfl ?_)
        repeat refine kX_one rfl ?_
        refine kX_if (fun q => ?_) (fun q => ?_)
        · have q : LV' u = -1 := qeq q
          exact k84 LV' (hk (fun z => absurd (q.symm.trans z) (by decide)))
        · have q0 : LV' u = 0 := (hm.1 u (by omega)).elim (fun z => absurd z (qeqF q)) id
          have huT := hm.2.1 u (by omega) q0
          iterate 2 (refine kX_one rfl ?_)
          refine kX_cal (mc_isOpen L xs d (va_up σ 22 LV') n (nI u) hn h.2.1) rfl (Or.inr rfl) rfl rfl rfl (fun r1 σ1 q1 => ?_)
          obtain ⟨rfl, rfl⟩ := q1
          repeat refine kX_one rfl ?_
          refine kX_if (fun q2 => ?_) (fun q2 => ?_)
          · obtain ⟨u', u1, u2, u3, u4⟩ := isB_ne.mp (qne q2)
            obtain rfl : u = u' := nI_inj u2
            have hop := (opn_c hI hA u1).mp ⟨u3, u4⟩
            obtain ⟨x, x1, x2s, x3⟩ := opn_2 hI u1 hop
            have x2 : σ 3 u = nI x := (hA.1 u u1).2.1.trans x2s
            have hm1 : mkI σ TL t (upd LV' x 0) (u + 1) := mkI_up hm ((hTL u huT).2.1 x x2s (by omega)) (by omega)
            have e1 : fN (σ 234 u) = x := by rw [x2s, fN_nI (by omega)]
            have fin : ∀ LV2, mkI σ TL t LV2 (u + 1) → LV2 u = 0 → LV2 x = 0 → (σ 235 u = -1 ∨ LV2 (fN (σ 235 u)) = 0) → mkI σ TL t LV2 u := fun LV2 g1 g2 g3 g4 => ⟨g1.1, g1.2.1, fun z => by
              by_cases e : u = t
              · rw [← e]
                exact g2
              · exact g1.2.2.1 (by omega), fun w w1 w2 w3 w4 => by
              by_cases e : w = u
              · subst e
                rw [e1]
                exact ⟨g3, g4⟩
              · exact g1.2.2.2 w (by omega) w2 w3 w4⟩
            iterate 4 (refine kX_one rfl ?_)
            refine kX_ialdV rfl rfl (by decide) (u) (by first | rfl | decide) (by omega) (x2) ?_
            iterate 1 (refine kX_one rfl ?_)
            refine kX_iastN rfl rfl (by decide) (x) (by first | rfl | decide) (by omega) ?_
            refine kX_st (va_up σ 22 (upd LV' x 0)) ?_ ?_
            · funext c; first
                | ((repeat (refine va_case ?_ ?_; (· (intro h; first | (subst h; rfl) | (unfold va_up; repeat' split; (all_goals first | rfl | omega | (subst_vars; rfl) | (funext j; unfold upd; repeat' split; all_goals first | rfl | omega | (subst_vars; rfl)))))); intro h)); (repeat (refine va_case2 ?_ ?_; (· (intro h; first | exact absurd h (by assumption) | (subst h; rfl) | (subst h; funext j; unfold upd; repeat' split; (all_goals first | rfl | omega | (subst_vars; rfl))))); intro h)); rfl)
                | (unfold va_up; repeat' split
                   all_goals first | rfl | omega | (subst_vars; rfl) | (funext j; unfold upd; repeat' split; all_goals first | rfl | omega | (subst_vars; rfl)))
            iterate 4 (refine kX_one rfl ?_)
            refine kX_ialdN rfl rfl (by decide) (u) (by first | rfl | decide) (by omega) ?_
            refine kX_cal (mc_has L xs (d + 1) (va_up σ 22 (upd LV' x 0)) n _ hn h.2.1) rfl (Or.inr rfl) rfl rfl rfl (fun r1 σ1 q1 => ?_)
            obtain ⟨rfl, rfl⟩ := q1
            repeat refine kX_one rfl ?_
            refine kX_if (fun q3 => ?_) (fun q3 => ?_)
            · have q3 : ¬ isN (σ 4 u) n := fun e => isB_ne.mpr e (qeq q3)
              rw [(hA.1 u u1).2.2.1] at q3
              refine k84 _ (fin _ hm1 (by rw [pk_un (by omega)]; exact q0) pk_us (Or.inl ?_))
              rcases x3 with ⟨y, y1, y2, -⟩ | ⟨y2, -⟩
              · exact absurd ⟨y, by omega, y2⟩ q3
              · exact y2
            · obtain ⟨y, y1, y2⟩ := isB_ne.mp (qeqF q3)
              have y2 : σ 4 u = nI y := y2
              have y2s : σ 235 u = nI y := (hA.1 u u1).2.2.1.symm.trans y2
              have yu : y < u := by
                rcases x3 with ⟨y', y1', y2', -⟩ | ⟨y2', -⟩
                · have := nI_inj (y2s.symm.trans y2')
                  omega
                · exact absurd (y2s.symm.trans y2') (nI_m1 (by omega))
              have hm2 : mkI σ TL t (upd (upd LV' x 0) y 0) (u + 1) := mkI_up hm1 ((hTL u huT).2.2 y y2s (by omega)) (by omega)
              iterate 4 (refine kX_one rfl ?_)
              refine kX_ialdV rfl rfl (by decide) (u) (by first | rfl | decide) (by omega) (y2) ?_
              iterate 1 (refine kX_one rfl ?_)
              refine kX_iastN rfl rfl (by decide) (y) (by first | rfl | decide) (by omega) ?_
              refine kX_st (va_up σ 22 (upd (upd LV' x 0) y 0)) ?_ (k84 _ (fin _ hm2 (by rw [pk_un (by omega), pk_un (by omega)]; exact q0) ?_ (Or.inr (by rw [y2s, fN_nI (by omega)]; exact pk_us))))
              · funext c; first
                  | ((repeat (refine va_case ?_ ?_; (· (intro h; first | (subst h; rfl) | (unfold va_up; repeat' split; (all_goals first | rfl | omega | (subst_vars; rfl) | (funext j; unfold upd; repeat' split; all_goals first | rfl | omega | (subst_vars; rfl)))))); intro h)); (repeat (refine va_case2 ?_ ?_; (· (intro h; first | exact absurd h (by assumption) | (subst h; rfl) | (subst h; funext j; unfold upd; repeat' split; (all_goals first | rfl | omega | (subst_vars; rfl))))); intro h)); rfl)
                  | (unfold va_up; repeat' split
                     all_goals first | rfl | omega | (subst_vars; rfl) | (funext j; unfold upd; repeat' split; all_goals first | rfl | omega | (subst_vars; rfl)))
              · by_cases e : x = y
                · rw [e]
                  exact pk_us
                · rw [pk_un e]
                  exact pk_us
          · have q2 : ¬ opn σ u := fun e => isB_ne.mpr ⟨u, hun, rfl, (opn_c hI hA hun).mpr e⟩ (qneF q2)
            iterate 1 (refine kX_one rfl ?_)
            exact k84 LV' (hk (fun _ z => absurd z q2))
      iterate 1 (refine kX_one rfl ?_)
      repeat refine kX_one rfl ?_
      refine kX_ifF (decide_eq_false (nI_pos (by omega))) ?_
      iterate 2 (refine kX_one rfl ?_)
      refine kX_getN rfl rfl (hEv) rfl ?_
      refine kX_top (y := nI t) (by rw [up_ne (by omega)]; exact hte) ?_
      repeat refine kX_one rfl ?_
      refine kX_if (fun q => ?_) (fun q => ?_)
      · have q : u ≠ t := fun e => qne q (by rw [e])
        exact k35 LV i2 (fun e => absurd e q)
      · obtain rfl : u = t := nI_inj (qneF q)
        iterate 3 (refine kX_one rfl ?_)
        refine kX_iastN rfl rfl (by decide) (u) (by first | rfl | decide) (by omega) ?_
        refine kX_st (va_up σ 22 (upd LV u 0)) ?_ (k35 _ (mkI_up i2 hTt (by omega)) (fun _ => pk_us))
        funext c; first
          | ((repeat (refine va_case ?_ ?_; (· (intro h; first | (subst h; rfl) | (unfold va_up; repeat' split; (all_goals first | rfl | omega | (subst_vars; rfl) | (funext j; unfold upd; repeat' split; all_goals first | rfl | omega | (subst_vars; rfl)))))); intro h)); (repeat (refine va_case2 ?_ ?_; (· (intro h; first | exact absurd h (by assumption) | (subst h; rfl) | (subst h; funext j; unfold upd; repeat' split; (all_goals first | rfl | omega | (subst_vars; rfl))))); intro h)); rfl)
          | (unfold va_up; repeat' split
             all_goals first | rfl | omega | (subst_vars; rfl) | (funext j; unfold upd; repeat' split; all_goals first | rfl | omega | (subst_vars; rfl)))
  iterate 2 (refine kX_one rfl ?_)
  refine kX_cal (kX_fill (T := kT) L xs (d + 1) (-1) σ (a := 22) (n := 200) (g0 := fun _ => 0) rfl (by decide)) rfl (Or.inr rfl) rfl rfl rfl (fun r1 σ1 q1 => ?_)
  obtain ⟨rfl, rfl⟩ := q1
  iterate 1 (refine kX_one rfl ?_)
  refine kX_getN rfl rfl (hEv) rfl ?_
  refine kX_top (y := nI t) (by rw [up_ne (by omega)]; exact hte) ?_
  iterate 2 (refine kX_one rfl ?_)
  refine kX_top (h.2.1) ?_
  iterate 3 (refine kX_one rfl ?_)
  refine kX_top (y := nI t) (min_ok ht hn) ?_
  iterate 1 (refine kX_one rfl ?_)
  have := loop (t + 1, fun j => if j < 200 then -1 else σ 22 j) ⟨Nat.le_refl _, fun j hj => Or.inl (if_pos hj), fun j hj hz => absurd ((if_pos hj).symm.trans hz) (by decide), fun z => by simp only at z; omega, fun u u1 u2 => by simp only at u1; omega⟩
  dsimp only at this
  rw [nI_pred] at this
  exact kX_lv _ rfl rfl rfl this
/-- the level of a part, as it is found -/
def lvR (σ : kS) (a m u : Nat) (x : Int32) : Prop := (opn σ u ∧ x = jmmv 1 (σ 22 (fN (σ 234 u))) (if σ 235 u = -1 then 0 else σ 22 (fN (σ 235 u)))) ∨ (¬ opn σ u ∧ ((x = 0 ∧ ∀ i, i < m → σ 233 u = nI 3 → σ (a + 1) i ≠ σ 241 u) ∨ ∃ j, j < m ∧ x = nI (j + 1) ∧ σ 233 u = nI 3 ∧ σ (a + 1) j = σ 241 u ∧ ∀ i, i < j → σ (a + 1) i ≠ σ 241 u))
set_option maxRecDepth 100000 in
set_option maxHeartbeats 4000000 in
theorem mf_levelOf (L : Nat) (xs : Nat → Int32) (d : Nat) (σ : kS) (n b0 r k u m : Nat) (h : cT σ n) (hI : mTb σ n b0) (hA : aT σ n) (hr : r < 4) (hk : k < 6) (hu : u < n) (hm : m ≤ 6) (hbc : σ (28 + 35 * r + 5 * k) 4 = nI m) : kXM kT L xs (d + 3) 43 [.ref (28 + 35 * r + 5 * k), .ref 1, .ref 22, .int (nI u)] σ (fun q σ' => (∃ x, q = some (.int x) ∧ lvR σ (28 + 35 * r + 5 * k) m u x) ∧ σ = σ') := by
  have hn := h.1
  have hEv := kT_ev hr hk
  have hE1 := kT_e1 (i := 1) hr hk (Or.inl rfl)
  generalize ha : 28 + 35 * r + 5 * k = a at *
  unfold kXM
  have loop : ∀ j : Nat, (¬ opn σ u ∧ j ≤ m ∧ ∀ i, i < j → σ 233 u = nI 3 → σ (a + 1) i ≠ σ 241 u) → kX kT L xs (d + 3) 43 48 [(4, .int (nI j)), (0, .ref a), (1, .ref 1), (2, .ref 22), (3, .int (nI u))] [] σ (fun q σ' => (∃ x, q = some (.int x) ∧ lvR σ a m u x) ∧ σ = σ') := by
    refine kX_while (fun j : Nat => [(4, .int (nI j)), (0, .ref a), (1, .ref 1), (2, .ref 22), (3, .int (nI u))]) (fun _ => σ) _ (fun j => m - j) ?_
    rintro j ⟨hno, hj, hnone⟩ ih
    iterate 2 (refine kX_one rfl ?_)
    refine kX_getN rfl rfl (hEv) rfl ?_
    refine kX_top (hbc) ?_
    repeat refine kX_one rfl ?_
    refine kX_if (fun q => ?_) (fun q => ?_)
    · have q := qge q j m
      repeat refine kX_one rfl ?_
      refine kX_ret (i := .ireturn) (len := 1) rfl (Or.inr rfl) rfl (⟨⟨_, rfl, Or.inr ⟨hno, Or.inl ⟨rfl, fun i hi => hnone i (by omega)⟩⟩⟩, rfl⟩)
    · have q := qgeF q j m
      have k88 : (σ 233 u = nI 3 → σ (a + 1) j ≠ σ 241 u) → kX kT L xs (d + 3) 43 88 [(4, .int (nI j)), (0, .ref a), (1, .ref 1), (2, .ref 22), (3, .int (nI u))] [] σ (fun q σ' => (∃ x, q = some (.int x) ∧ lvR σ a m u x) ∧ σ = σ') := by
        intro hj2
        iterate 2 (refine kX_one rfl ?_)
        have := ih (j + 1) ⟨hno, q, fun i hi => by
          by_cases e : i = j
          · subst e
            exact hj2
          · exact hnone i (by omega)⟩ (by omega)
        rw [← nI_1] at this
        exact kX_lv _ rfl rfl rfl this
      iterate 3 (refine kX_one rfl ?_)
      refine kX_ialdN rfl rfl (by decide) (u) (by first | rfl | decide) (by omega) ?_
      iterate 1 (refine kX_one rfl ?_)
      have hau := hA.1 u hu
      repeat refine kX_one rfl ?_
      refine kX_if (fun q2 => ?_) (fun q2 => ?_)
      · exact k88 (fun e => absurd (hau.1.trans e) (qne q2))
      · have q2 : σ 233 u = nI 3 := hau.1.symm.trans (qneF q2)
        have hpl := (hau.2.2.2.2.2.2 q2).2.2
        iterate 1 (refine kX_one rfl ?_)
        refine kX_getN rfl rfl (hEv) rfl ?_
        iterate 1 (refine kX_one rfl ?_)
        refine kX_ialdN rfl (hE1) (by decide) (j) (by first | rfl | decide) (by omega) ?_
        iterate 3 (refine kX_one rfl ?_)
        refine kX_ialdN rfl rfl (by decide) (u) (by first | rfl | decide) (by omega) ?_
        repeat refine kX_one rfl ?_
        refine kX_if (fun q3 => ?_) (fun q3 => ?_)
        · exact k88 (fun _ e => qne q3 (e.trans hpl.symm))
        · have q3 : σ (a + 1) j = σ 241 u := (qneF q3).trans hpl
          repeat refine kX_one rfl ?_
          refine kX_ret (i := .ireturn) (len := 1) rfl (Or.inr rfl) rfl (⟨⟨_, rfl, Or.inr ⟨hno, Or.inr ⟨j, q, nI_1 j, q2, q3, fun i hi => hnone i hi q2⟩⟩⟩, rfl⟩)
  iterate 2 (refine kX_one rfl ?_)
  refine kX_cal (mc_isOpen L xs d σ n (nI u) hn h.2.1) rfl (Or.inr rfl) rfl rfl rfl (fun r1 σ1 q1 => ?_)
  obtain ⟨rfl, rfl⟩ := q1
  repeat refine kX_one rfl ?_
  refine kX_if (fun q => ?_) (fun q => ?_)
  · have q : ¬ opn σ u := fun e => isB_ne.mpr ⟨u, hu, rfl, (opn_c hI hA hu).mpr e⟩ (qeq q)
    iterate 2 (refine kX_one rfl ?_)
    exact kX_lv _ rfl rfl rfl (loop 0 ⟨q, Nat.zero_le _, fun i hi => absurd hi (Nat.not_lt_zero i)⟩)
  · obtain ⟨u', u1, u2, u3, u4⟩ := isB_ne.mp (qeqF q)
    obtain rfl : u = u' := nI_inj u2
    have hop := (opn_c hI hA u1).mp ⟨u3, u4⟩
    obtain ⟨x, x1, x2s, x3⟩ := opn_2 hI u1 hop
    have x2 : σ 3 u = nI x := (hA.1 u u1).2.1.trans x2s
    have e1 : fN (σ 234 u) = x := by rw [x2s, fN_nI (by omega)]
    iterate 3 (refine kX_one rfl ?_)
    refine kX_ialdN rfl rfl (by decide) (u) (by first | rfl | decide) (by omega) ?_
    iterate 5 (refine kX_one rfl ?_)
    refine kX_ialdV rfl rfl (by decide) (u) (by first | rfl | decide) (by omega) (x2) ?_
    refine kX_ialdN rfl rfl (by decide) (x) (by first | rfl | decide) (by omega) ?_
    iterate 2 (refine kX_one rfl ?_)
    refine kX_cal (mc_has L xs (d + 1) σ n _ hn h.2.1) rfl (Or.inr rfl) rfl rfl rfl (fun r1 σ1 q1 => ?_)
    obtain ⟨rfl, rfl⟩ := q1
    repeat refine kX_one rfl ?_
    refine kX_if (fun q2 => ?_) (fun q2 => ?_)
    · have q2 : ¬ isN (σ 4 u) n := fun e => isB_ne.mpr e (qeq q2)
      rw [(hA.1 u u1).2.2.1] at q2
      have hs : σ 235 u = -1 := by
        rcases x3 with ⟨y, y1, y2, -⟩ | ⟨y2, -⟩
        · exact absurd ⟨y, by omega, y2⟩ q2
        · exact y2
      repeat refine kX_one rfl ?_
      refine kX_ret (i := .ireturn) (len := 1) rfl (Or.inr rfl) rfl (⟨⟨_, rfl, Or.inl ⟨hop, by rw [e1, if_pos hs]; rfl⟩⟩, rfl⟩)
    · obtain ⟨y, y1, y2⟩ := isB_ne.mp (qeqF q2)
      have y2 : σ 4 u = nI y := y2
      have y2s : σ 235 u = nI y := (hA.1 u u1).2.2.1.symm.trans y2
      iterate 2 (refine kX_one rfl ?_)
      refine kX_ialdN rfl rfl (by decide) (y) (y2) (by omega) ?_
      repeat refine kX_one rfl ?_
      refine kX_ret (i := .ireturn) (len := 1) rfl (Or.inr rfl) rfl (⟨⟨_, rfl, Or.inl ⟨hop, by rw [e1, if_neg (show ¬ σ 235 u = -1 by rw [y2s]; exact nI_m1 (by omega)), show fN (σ 235 u) = y by rw [y2s, fN_nI (by omega)]]⟩⟩, rfl⟩)
end
section
/-! alike: event, its plan -/
/-- levels below K are found; above, there are marks alone -/
def lvI (σ : kS) (TL : List Nat) (t m : Nat) (bl : List Nat) (M LV : Nat → Int32) (K : Nat) : Prop := mkI σ TL t M 0 ∧ (∀ j, j < 200 → (K ≤ j ∨ M j = -1) → LV j = M j) ∧ ∀ j, j < K → j ≤ t → M j = 0 → ∃ l, l ≤ m ∧ LV j = nI l ∧ (∀ w ∈ tvs (σ 233) (σ 234) (σ 235) j, ∀ i (hi : i < bl.length), bl[i]'hi = w → i + 1 ≤ l) ∧ (opn σ j → (∃ l', l' ≤ l ∧ LV (fN (σ 234 j)) = nI l') ∧ (σ 235 j = -1 ∨ ∃ l', l' ≤ l ∧ LV (fN (σ 235 j)) = nI l'))
theorem jmax (x y : Nat) (hx : x < 1000) (hy : y < 1000) : ∃ z, jmmv 1 (nI x) (nI y) = nI z ∧ x ≤ z ∧ y ≤ z ∧ (z = x ∨ z = y) := by
  unfold jmmv
  rw [if_pos rfl]
  by_cases h : nI x < nI y
  · rw [if_pos h]
    have := (nI_ltI (by omega) (by omega)).mp h
    exact ⟨y, rfl, by omega, by omega, Or.inr rfl⟩
  · rw [if_neg h]
    have : ¬ x < y := fun z => h ((nI_ltI (by omega) (by omega)).mpr z)
    exact ⟨x, rfl, by omega, by omega, Or.inl rfl⟩
/-- one level more is found -/
theorem lvI_step {σ τ : kS} {TL : List Nat} {n b t m u a : Nat} {bl : List Nat} {M LV : Nat → Int32} {y : Int32} (hI : mTb σ n b) (ht : t < n) (hbl : bl.length = m) (hm : m ≤ 6) (hbn : ∀ i (hi : i < bl.length), τ (a + 1) i = σ 241 (bl[i]'hi)) (hbi : ∀ i (hi : i < bl.length), ∀ j (hj : j < bl.length), σ 241 (bl[i]'hi) = σ 241 (bl[j]'hj) → i = j) (hbk : ∀ w ∈ bl, w < n ∧ σ 233 w = nI 3) (h : lvI σ TL t m bl M LV u) (hu : u ≤ t) (hmu : M u = 0) (hy : lvR τ a m u y) (e1 : τ 22 = LV) (e2 : τ 234 = σ 234) (e3 : τ 235 = σ 235) (e4 : τ 233 = σ 233) (e5 : τ 241 = σ 241) : lvI σ TL t m bl M (upd LV u y) (u + 1) := by
  obtain ⟨h1, h2, h3⟩ := h
  have hn := hI.1
  have hop : opn τ u ↔ opn σ u := by
    unfold opn
    rw [e2, e3, e4]
  have hyl : ∃ l, l ≤ m ∧ y = nI l ∧ (∀ w ∈ tvs (σ 233) (σ 234) (σ 235) u, ∀ i (hi : i < bl.length), bl[i]'hi = w → i + 1 ≤ l) ∧ (opn σ u → (∃ l', l' ≤ l ∧ LV (fN (σ 234 u)) = nI l') ∧ (σ 235 u = -1 ∨ ∃ l', l' ≤ l ∧ LV (fN (σ 235 u)) = nI l')) := by
    rcases hy with ⟨g1, g2⟩ | ⟨g1, g2⟩
    · have go := hop.mp g1
      obtain ⟨x, x1, x2, x3⟩ := opn_2 hI (by omega) go
      obtain ⟨c1, c2⟩ := h1.2.2.2 u (Nat.zero_le _) hu hmu go
      rw [e2, e3, e1, x2, fN_nI (by omega)] at g2
      rw [x2, fN_nI (by omega)] at c1 ⊢
      obtain ⟨l1, a1, a2, a3, -⟩ := h3 x x1 (by omega) c1
      rcases x3 with ⟨z, z1, z2, z3⟩ | ⟨z2, z3⟩
      · rw [z2, fN_nI (by omega), if_neg (nI_m1 (by omega)), a2] at g2
        rw [z2, fN_nI (by omega)] at c2 ⊢
        have c2 := c2.elim (fun q => absurd q (nI_m1 (by omega))) id
        obtain ⟨l2, b1, b2, b3, -⟩ := h3 z z1 (by omega) c2
        rw [b2] at g2
        obtain ⟨w, w1, w2, w3, w4⟩ := jmax l1 l2 (by omega) (by omega)
        rw [w1] at g2
        refine ⟨w, by omega, g2, fun p hp i hi hb => ?_, fun _ => ⟨⟨l1, w2, a2⟩, Or.inr ⟨l2, w3, b2⟩⟩⟩
        rw [z3] at hp
        rcases List.mem_append.mp hp with hp | hp
        · have := a3 p hp i hi hb
          omega
        · have := b3 p hp i hi hb
          omega
      · rw [z2, if_pos rfl, a2] at g2
        obtain ⟨w, w1, w2, w3, w4⟩ := jmax l1 0 (by omega) (by omega)
        have g2 : y = nI w := g2.trans w1
        refine ⟨w, by omega, g2, fun p hp i hi hb => ?_, fun _ => ⟨⟨l1, w2, a2⟩, Or.inl z2⟩⟩
        rw [z3, List.append_nil] at hp
        have := a3 p hp i hi hb
        omega
    · have gno : ¬ opn σ u := fun z => g1 (hop.mpr z)
      have hvar : ∀ w ∈ tvs (σ 233) (σ 234) (σ 235) u, w = u ∧ σ 233 u = nI 3 := fun w hw => by
        by_cases hg : tgd (σ 233) (σ 234) (σ 235) u = true
        · rw [(tgd_tvs (mTb_num hI) u (show u < n by omega)).mp hg] at hw
          cases hw
        · have h3' : σ 233 u = nI 3 := Classical.byContradiction (fun z => gno ⟨by cases h : tgd (σ 233) (σ 234) (σ 235) u <;> simp_all, z⟩)
          have ev : tvs (σ 233) (σ 234) (σ 235) u = if σ 233 u = nI 3 then [u] else [] := tA_0 h3' (by omega)
          rw [ev, if_pos h3'] at hw
          exact ⟨List.mem_singleton.mp hw, h3'⟩
      rcases g2 with ⟨g2, g3⟩ | ⟨j, j1, j2, j3, j4, j5⟩
      · refine ⟨0, by omega, g2, fun w hw i hi hb => ?_, fun z => absurd z gno⟩
        obtain ⟨rfl, hk3⟩ := hvar w hw
        exfalso
        rw [e4, e5] at g3
        exact g3 i (by omega) hk3 (by rw [hbn i hi, hb])
      · refine ⟨j + 1, by omega, j2, fun w hw i hi hb => ?_, fun z => absurd z gno⟩
        obtain ⟨rfl, hk3⟩ := hvar w hw
        rw [e5, hbn j (by omega)] at j4
        have := hbi i hi j (by omega) (by rw [hb, j4])
        omega
  obtain ⟨l, y1, y2, y3, y4⟩ := hyl
  refine ⟨h1, fun j hj hq => ?_, fun j hj hjt hmj => ?_⟩
  · have hne : j ≠ u := fun e => by
      subst e
      rcases hq with hq | hq
      · omega
      · rw [hmu] at hq
        exact absurd hq (by decide)
    rw [pk_un hne]
    exact h2 j hj (hq.imp (fun z => by omega) id)
  · have hch : ∀ v, v < u → upd LV u y v = LV v := fun v hv => pk_un (by omega)
    by_cases e : j = u
    · subst e
      rw [pk_us]
      refine ⟨l, y1, y2, y3, fun ho => ?_⟩
      obtain ⟨x, x1, x2, x3⟩ := opn_2 hI (by omega) ho
      obtain ⟨c1, c2⟩ := y4 ho
      rw [x2, fN_nI (by omega)] at c1 ⊢
      rw [hch x x1]
      refine ⟨c1, ?_⟩
      rcases x3 with ⟨z, z1, z2, -⟩ | ⟨z2, -⟩
      · rw [z2, fN_nI (by omega)] at c2 ⊢
        rw [hch z z1]
        exact c2
      · exact Or.inl z2
    · rw [pk_un e]
      obtain ⟨l', a1, a2, a3, a4⟩ := h3 j (by omega) hjt hmj
      refine ⟨l', a1, a2, a3, fun ho => ?_⟩
      obtain ⟨x, x1, x2, x3⟩ := opn_2 hI (by omega) ho
      obtain ⟨c1, c2⟩ := a4 ho
      rw [x2, fN_nI (by omega)] at c1 ⊢
      rw [hch x (by omega)]
      refine ⟨c1, ?_⟩
      rcases x3 with ⟨z, z1, z2, -⟩ | ⟨z2, -⟩
      · rw [z2, fN_nI (by omega)] at c2 ⊢
        rw [hch z (by omega)]
        exact c2
      · exact Or.inl z2
theorem sub_len {l TL : List Nat} {m : Nat} (hn : l.Pairwise (fun x y => x ≠ y)) (hs : ∀ x ∈ l, x ∈ TL) (hb : ∀ x ∈ l, x < m) : l.length ≤ TL.length := by
  rw [← cnt_mem2 l hn hb]
  exact Nat.le_trans (cnt_mono hs m) (cnt_mem TL m)
/-- parts so far: levels below k, and of level k the numbers below u -/
def plQ (σ τ : kS) (a t : Nat) (M LV : Nat → Int32) (pl : List Nat) (k u : Nat) : Prop := τ a 7 = nI pl.length ∧ lst (τ (a + 3)) pl ∧ pl.Pairwise (fun x y => x ≠ y) ∧ (∀ w, w ∈ pl ↔ w ≤ t ∧ M w = 0 ∧ ∃ l, l ≤ 6 ∧ LV w = nI l ∧ (l < k ∨ (l = k ∧ w < u))) ∧ ∀ i (h : i < pl.length), opn σ (pl[i]'h) → (∃ j, ∃ (hj : j < pl.length), j < i ∧ σ 234 (pl[i]'h) = nI (pl[j]'hj)) ∧ (σ 235 (pl[i]'h) = -1 ∨ ∃ j, ∃ (hj : j < pl.length), j < i ∧ σ 235 (pl[i]'h) = nI (pl[j]'hj))
def plW (τ : kS) (a : Nat) (LV : Nat → Int32) (pl : List Nat) (k : Nat) : Prop := ∀ j, j < k → ∃ f, f ≤ pl.length ∧ τ (a + 4) j = nI f ∧ ∀ i (h : i < pl.length), i < f → ∃ l, LV (pl[i]'h) = nI l ∧ l ≤ 6 ∧ l < j
theorem plQ_skip {σ τ : kS} {a t k u : Nat} {M LV : Nat → Int32} {pl : List Nat} (hk : k ≤ 6) (h : plQ σ τ a t M LV pl k u) (hu : ¬ (u ≤ t ∧ M u = 0 ∧ LV u = nI k)) : plQ σ τ a t M LV pl k (u + 1) := by
  obtain ⟨h1, h2, h3, h4, h5⟩ := h
  refine ⟨h1, h2, h3, fun w => ?_, h5⟩
  rw [h4]
  refine and_congr_right (fun w1 => and_congr_right (fun w2 => exists_congr (fun l => and_congr_right (fun l1 => and_congr_right (fun l2 => ?_)))))
  constructor
  · rintro (q | q)
    · exact Or.inl q
    · exact Or.inr ⟨q.1, by omega⟩
  · rintro (q | q)
    · exact Or.inl q
    · refine Or.inr ⟨q.1, ?_⟩
      have : w ≠ u := fun e => hu (by rw [← e]; exact ⟨w1, w2, by rw [l2, q.1]⟩)
      omega
theorem plQ_add {σ τ τ' : kS} {TL : List Nat} {n b a t m k u : Nat} {bl : List Nat} {M LV : Nat → Int32} {pl : List Nat} (hI : mTb σ n b) (ht : t < n) (hL : lvI σ TL t m bl M LV (t + 1)) (hm6 : m ≤ 6) (h : plQ σ τ a t M LV pl k u) (hk : k ≤ m) (hu : u ≤ t) (hmu : M u = 0) (hl : LV u = nI k) (e1 : τ' a 7 = nI (pl.length + 1)) (e2 : τ' (a + 3) = upd (τ (a + 3)) pl.length (nI u)) : plQ σ τ' a t M LV (pl ++ [u]) k (u + 1) := by
  obtain ⟨h1, h2, h3, h4, h5⟩ := h
  have hn := hI.1
  have hnot : u ∉ pl := fun z => by
    obtain ⟨-, -, l, l1, l2, l3⟩ := (h4 u).mp z
    have := nI_inj (hl.symm.trans l2)
    omega
  refine ⟨by rw [e1, List.length_append]; rfl, by rw [e2]; exact lst_push h2 u, ?_, fun w => ?_, fun i hi ho => ?_⟩
  · refine List.pairwise_append.mpr ⟨h3, List.pairwise_singleton _ _, fun x hx y hy e => ?_⟩
    rw [List.mem_singleton.mp hy] at e
    exact hnot (e ▸ hx)
  · rw [List.mem_append, List.mem_singleton, h4]
    constructor
    · rintro (⟨w1, w2, l, l1, l2, l3⟩ | rfl)
      · exact ⟨w1, w2, l, l1, l2, l3.imp id (fun q => ⟨q.1, by omega⟩)⟩
      · exact ⟨hu, hmu, k, by omega, hl, Or.inr ⟨rfl, by omega⟩⟩
    · rintro ⟨w1, w2, l, l1, l2, l3⟩
      by_cases e : w = u
      · exact Or.inr e
      · exact Or.inl ⟨w1, w2, l, l1, l2, l3.imp id (fun q => ⟨q.1, by omega⟩)⟩
  · have lift : ∀ j (hj : j < pl.length), (pl ++ [u])[j]'(by rw [List.length_append]; exact Nat.lt_succ_of_lt hj) = pl[j] := fun j hj => List.getElem_append_left hj
    rw [List.length_append] at hi
    simp only [List.length_cons, List.length_nil] at hi
    by_cases e : i < pl.length
    · rw [lift i e] at ho ⊢
      obtain ⟨⟨j, j1, j2, j3⟩, g⟩ := h5 i e ho
      refine ⟨⟨j, by rw [List.length_append]; exact Nat.lt_succ_of_lt j1, j2, by rw [lift j j1]; exact j3⟩, ?_⟩
      rcases g with g | ⟨j', y1, y2, y3⟩
      · exact Or.inl g
      · exact Or.inr ⟨j', by rw [List.length_append]; exact Nat.lt_succ_of_lt y1, y2, by rw [lift j' y1]; exact y3⟩
    · obtain rfl : i = pl.length := by omega
      have eu : (pl ++ [u])[pl.length]'(by simp) = u := by simp
      rw [eu] at ho ⊢
      -- what u is of has come before
      have child : ∀ x, x < u → M x = 0 → (∃ l', l' ≤ k ∧ LV x = nI l') → ∃ j, ∃ (hj : j < (pl ++ [u]).length), j < pl.length ∧ nI x = nI ((pl ++ [u])[j]'hj) := fun x hx hmx ⟨l', a1, a2⟩ => by
        have hin : x ∈ pl := (h4 x).mpr ⟨by omega, hmx, l', by omega, a2, by omega⟩
        obtain ⟨j, hj, e⟩ := List.mem_iff_getElem.mp hin
        exact ⟨j, by rw [List.length_append]; exact Nat.lt_succ_of_lt hj, hj, by rw [lift j hj, e]⟩
      obtain ⟨x, x1, x2, x3⟩ := opn_2 hI (by omega) ho
      obtain ⟨c1, c2⟩ := hL.1.2.2.2 u (Nat.zero_le _) hu hmu ho
      obtain ⟨l, l1, l2, -, l4⟩ := hL.2.2 u (by omega) hu hmu
      have hlk : l = k := nI_inj (l2.symm.trans hl)
      obtain ⟨d1, d2⟩ := l4 ho
      rw [hlk] at d1 d2
      rw [x2, fN_nI (by omega)] at c1 d1
      rw [x2]
      refine ⟨child x x1 c1 d1, ?_⟩
      rcases x3 with ⟨z, z1, z2, -⟩ | ⟨z2, -⟩
      · rw [z2, fN_nI (by omega)] at c2 d2
        rw [z2]
        exact Or.inr (child z z1 (c2.elim (fun q => absurd q (nI_m1 (by omega))) id) (d2.elim (fun q => absurd q (nI_m1 (by omega))) id))
      · exact Or.inl z2
theorem plW_app {τ τ' : kS} {a k u : Nat} {LV : Nat → Int32} {pl : List Nat} (h : plW τ a LV pl k) (e : τ' (a + 4) = τ (a + 4)) : plW τ' a LV (pl ++ [u]) k := fun j hj => by
  obtain ⟨f, f1, f2, f3⟩ := h j hj
  refine ⟨f, by rw [List.length_append]; omega, by rw [e]; exact f2, fun i hi hif => ?_⟩
  rw [List.getElem_append_left (show i < pl.length by omega)]
  exact f3 i (by omega) hif
end
section
/-! alike: event, its plan, walked -/
theorem lvI_skip {σ : kS} {TL : List Nat} {t m u : Nat} {bl : List Nat} {M LV : Nat → Int32} (h : lvI σ TL t m bl M LV u) (hm : M u ≠ 0) : lvI σ TL t m bl M LV (u + 1) := by
  obtain ⟨h1, h2, h3⟩ := h
  refine ⟨h1, fun j hj hq => h2 j hj (hq.imp (fun z => by omega) id), fun j hj hjt hmj => h3 j ?_ hjt hmj⟩
  have : j ≠ u := fun e => hm (e ▸ hmj)
  omega
def plX (σ τ : kS) (a n t m : Nat) (M LV : Nat → Int32) (TL pl : List Nat) (k u w : Nat) : Prop := plF σ τ a ∧ τ 22 = LV ∧ plQ σ τ a t M LV pl k u ∧ plW τ a LV pl w ∧ tL n (τ (a + 3)) pl.length ∧ pl.length ≤ 24 ∧ ∀ x ∈ pl, x ∈ TL
set_option maxRecDepth 100000 in
set_option maxHeartbeats 4000000 in
theorem mf_plan (L : Nat) (xs : Nat → Int32) (d : Nat) (σ : kS) (n b0 r k t m : Nat) (h : cT σ n) (hI : mTb σ n b0) (hA : aT σ n) (TL : List Nat) (hTt : t ∈ TL) (hTL : ∀ u ∈ TL, u ≤ t ∧ (∀ x, σ 234 u = nI x → x < 100000 → x ∈ TL) ∧ (∀ y, σ 235 u = nI y → y < 100000 → y ∈ TL)) (h24 : TL.length ≤ 24) (hTv : ∀ u ∈ TL, ∀ v ∈ tvs (σ 233) (σ 234) (σ 235) u, v ∈ tvs (σ 233) (σ 234) (σ 235) t) (bl : List Nat) (hbl : bl.length = m) (hr : r < 4) (hk : k < 6) (ht : t < n) (hm : m ≤ 6) (hte : σ (28 + 35 * r + 5 * k) 1 = nI t) (hbc : σ (28 + 35 * r + 5 * k) 4 = nI m) (hbn : ∀ i (hi : i < bl.length), σ (28 + 35 * r + 5 * k + 1) i = σ 241 (bl[i]'hi)) (hbi : ∀ i (hi : i < bl.length), ∀ j (hj : j < bl.length), σ 241 (bl[i]'hi) = σ 241 (bl[j]'hj) → i = j) (hbk : ∀ w ∈ bl, w < n ∧ σ 233 w = nI 3) : kXM kT L xs (d + 4) 41 [.ref (28 + 35 * r + 5 * k), .ref 1, .ref 22] σ (fun q σ' => q = none ∧ ∃ p, plF σ σ' (28 + 35 * r + 5 * k) ∧ plJ σ' (28 + 35 * r + 5 * k) n p (m + 1) ∧ aP σ' (28 + 35 * r + 5 * k) t bl) := by
  have hn := h.1
  unfold kXM
  iterate 3 (refine kX_one rfl ?_)
  refine kX_cal (mf_markParts L xs d σ n b0 r k t h hI hA TL hTt hTL hr hk ht hte) rfl (Or.inr rfl) rfl (jcall_v rfl rfl rfl (kT_ev hr hk) rfl rfl) rfl (fun r1 σ1 q1 => ?_)
  obtain ⟨rfl, M, rfl, hM⟩ := q1
  have hlev : ∀ LV u, u < n → kXM kT L xs (d + 3) 43 [.ref (28 + 35 * r + 5 * k), .ref 1, .ref 22, .int (nI u)] (va_up σ 22 LV) (fun q σ' => (∃ x, q = some (.int x) ∧ lvR (va_up σ 22 LV) (28 + 35 * r + 5 * k) m u x) ∧ va_up σ 22 LV = σ') := fun LV u hu => mf_levelOf L xs d (va_up σ 22 LV) n b0 r k u m (cT_eq rfl rfl (fun _ _ => ⟨rfl, rfl, rfl, rfl, rfl, rfl⟩) h) hI hA hr hk hu hm (by rw [up_ne (by omega)]; exact hbc)
  have hEv := kT_ev hr hk
  have hE3 := (kT_e3 hr hk).1
  have hE4 := (kT_e3 hr hk).2
  generalize ha : 28 + 35 * r + 5 * k = a at *
  have haa : 28 ≤ a ∧ a + 5 ≤ 163 := by omega
  -- the end
  have fin : ∀ LV τ pl, lvI σ TL t m bl M LV (t + 1) → plX σ τ a n t m M LV TL pl (m + 1) 0 (m + 1) → aP τ a t bl := by
    intro LV τ pl hL hX
    obtain ⟨x1, x2, x3, x4, x5, x6, x7⟩ := hX
    have er : ∀ c, 232 ≤ c → τ c = σ c := fun c hc => x1.1 c (by omega) (by omega) (by omega) (by omega)
    have eo : ∀ w, opn τ w ↔ opn σ w := fun w => by
      unfold opn
      rw [er 233 (by decide), er 234 (by decide), er 235 (by decide)]
    have hin : ∀ w, w ≤ t → M w = 0 → ∃ l, l ≤ m ∧ LV w = nI l ∧ ∀ v ∈ tvs (σ 233) (σ 234) (σ 235) w, ∀ i (hi : i < bl.length), bl[i]'hi = v → i + 1 ≤ l := fun w w1 w2 => by
      obtain ⟨l, l1, l2, l3, -⟩ := hL.2.2 w (by omega) w1 w2
      exact ⟨l, l1, l2, l3⟩
    have hmt : M t = 0 := hM.2.2.1 (Nat.zero_le _)
    refine ⟨pl, x6, x3.1, x3.2.1, ?_, fun w hw => ⟨((x3.2.2.2.1 w).mp hw).1, by rw [er 233 (by decide), er 234 (by decide), er 235 (by decide)]; exact hTv w (x7 w hw)⟩, fun i hi ho => ?_, fun j hj => ?_⟩
    · obtain ⟨l, l1, l2, -⟩ := hin t (Nat.le_refl _) hmt
      exact (x3.2.2.2.1 t).mpr ⟨Nat.le_refl _, hmt, l, by omega, l2, Or.inl (by omega)⟩
    · rw [er 234 (by decide), er 235 (by decide)]
      exact x3.2.2.2.2 i hi ((eo _).mp ho)
    · obtain ⟨f, f1, f2, f3⟩ := x4 (j + 1) (by omega)
      refine ⟨f, f1, f2, fun i hi hif v hv j' hj' hjj e => ?_⟩
      obtain ⟨l, l1, l2, l3⟩ := f3 i hi hif
      obtain ⟨w1, w2, -⟩ := (x3.2.2.2.1 _).mp (List.getElem_mem hi)
      obtain ⟨l', m1, m2, m3⟩ := hin _ w1 w2
      have hll : l' = l := nI_inj (m2.symm.trans l1)
      rw [er 233 (by decide), er 234 (by decide), er 235 (by decide)] at hv
      have := m3 v hv j' hj' e.symm
      omega
  have hTLn : ∀ x ∈ TL, x < 200 := fun x hx => by
    have := (hTL x hx).1
    omega
  have loop3 : ∀ LV, lvI σ TL t m bl M LV (t + 1) → ∀ at' : Nat, at' ≤ m → (∀ τ pl, plX σ τ a n t m M LV TL pl (at' + 1) 0 (at' + 1) → kX kT L xs (d + 4) 41 137 [(3, .int (nI at')), (0, .ref a), (1, .ref 1), (2, .ref 22)] [] τ (fun q σ' => q = none ∧ ∃ p, plF σ σ' a ∧ plJ σ' a n p (m + 1) ∧ aP σ' a t bl)) → ∀ q : Nat × kS × List Nat, (q.1 ≤ t + 1 ∧ plX σ q.2.1 a n t m M LV TL q.2.2 at' q.1 (at' + 1)) → kX kT L xs (d + 4) 41 75 [(4, .int (nI q.1)), (3, .int (nI at')), (0, .ref a), (1, .ref 1), (2, .ref 22)] [] q.2.1 (fun q σ' => q = none ∧ ∃ p, plF σ σ' a ∧ plJ σ' a n p (m + 1) ∧ aP σ' a t bl) := by
    intro LV hL at' hat he
    refine kX_while (fun q : Nat × kS × List Nat => [(4, .int (nI q.1)), (3, .int (nI at')), (0, .ref a), (1, .ref 1), (2, .ref 22)]) (fun q => q.2.1) _ (fun q => t + 1 - q.1) ?_
    rintro ⟨u, τ, pl⟩ ⟨i1, i2⟩ ih
    dsimp only at i1 i2 ih ⊢
    obtain ⟨x1, x2, x3, x4, x5, x6, x7⟩ := i2
    have k137 : (∀ w, w ≤ t → M w = 0 → LV w = nI at' → w < u) → kX kT L xs (d + 4) 41 137 [(4, .int (nI u)), (3, .int (nI at')), (0, .ref a), (1, .ref 1), (2, .ref 22)] [] τ (fun q σ' => q = none ∧ ∃ p, plF σ σ' a ∧ plJ σ' a n p (m + 1) ∧ aP σ' a t bl) := by
      intro hend
      refine kX_lv _ rfl rfl rfl (he τ pl ⟨x1, x2, ⟨x3.1, x3.2.1, x3.2.2.1, fun w => ?_, x3.2.2.2.2⟩, x4, x5, x6, x7⟩)
      rw [x3.2.2.2.1]
      refine and_congr_right (fun w1 => and_congr_right (fun w2 => exists_congr (fun l => and_congr_right (fun l1 => and_congr_right (fun l2 => ?_)))))
      constructor
      · rintro (q | q)
        · exact Or.inl (by omega)
        · exact Or.inl (by omega)
      · rintro (q | q)
        · by_cases e : l = at'
          · exact Or.inr ⟨e, hend w w1 w2 (by rw [l2, e])⟩
          · exact Or.inl (by omega)
        · omega
    have etm : τ a 1 = nI t := (x1.2 _ (by decide)).trans hte
    have ecn : τ 1 11 = nI n := by
      rw [x1.1 1 (by decide) (by omega) (by omega) (by omega)]
      exact h.2.1
    iterate 2 (refine kX_one rfl ?_)
    refine kX_getN rfl rfl (hEv) rfl ?_
    refine kX_top (etm) ?_
    repeat refine kX_one rfl ?_
    refine kX_if (fun q => ?_) (fun q => ?_)
    · have q := qgt q u t
      exact k137 (fun w w1 _ _ => by omega)
    · have q := qgtF q u t
      iterate 3 (refine kX_one rfl ?_)
      refine kX_top (ecn) ?_
      repeat refine kX_one rfl ?_
      refine kX_if (fun q2 => ?_) (fun q2 => ?_)
      · have q2 := qge q2 u n
        omega
      · have q2 := qgeF q2 u n
        iterate 1 (refine kX_one rfl ?_)
        refine kX_getN rfl rfl (hEv) rfl ?_
        refine kX_top (x3.1) ?_
        iterate 1 (refine kX_one rfl ?_)
        repeat refine kX_one rfl ?_
        refine kX_if (fun q3 => ?_) (fun q3 => ?_)
        · have q3 := qge q3 pl.length 24
          refine k137 (fun w w1 w2 w3 => Classical.byContradiction (fun hw => ?_))
          have hno : w ∉ pl := fun z => by
            obtain ⟨-, -, l, l1, l2, l3⟩ := (x3.2.2.2.1 w).mp z
            have := nI_inj (w3.symm.trans l2)
            omega
          have hsub := sub_len (l := w :: pl) (TL := TL) (m := 200) (List.pairwise_cons.mpr ⟨fun y hy e => hno (e ▸ hy), x3.2.2.1⟩) (fun y hy => by
            rcases List.mem_cons.mp hy with rfl | hy
            · exact hM.2.1 y (by omega) w2
            · exact x7 y hy) (fun y hy => by
            rcases List.mem_cons.mp hy with rfl | hy
            · omega
            · exact hTLn y (x7 y hy))
          rw [List.length_cons] at hsub
          omega
        · have q3 := qgeF q3 pl.length 24
          have k131 : ∀ τ' pl', plX σ τ' a n t m M LV TL pl' at' (u + 1) (at' + 1) → kX kT L xs (d + 4) 41 131 [(4, .int (nI u)), (3, .int (nI at')), (0, .ref a), (1, .ref 1), (2, .ref 22)] [] τ' (fun q σ' => q = none ∧ ∃ p, plF σ σ' a ∧ plJ σ' a n p (m + 1) ∧ aP σ' a t bl) := by
            intro τ' pl' y1
            iterate 2 (refine kX_one rfl ?_)
            have := ih (u + 1, τ', pl') ⟨by simp only; omega, y1⟩ (by simp only; omega)
            dsimp only at this
            rw [← nI_1] at this
            exact kX_lv _ rfl rfl rfl this
          iterate 2 (refine kX_one rfl ?_)
          refine kX_ialdV rfl rfl (by decide) u rfl (by omega) (congrFun x2 u) ?_
          iterate 1 (refine kX_one rfl ?_)
          repeat refine kX_one rfl ?_
          refine kX_if (fun q4 => ?_) (fun q4 => ?_)
          · have q4 : LV u ≠ nI at' := qne q4
            exact k131 τ pl ⟨x1, x2, plQ_skip (by omega) x3 (fun e => q4 e.2.2), x4, x5, x6, x7⟩
          · have q4 : LV u = nI at' := qneF q4
            have hmu : M u = 0 := by
              rcases hM.1 u (by omega) with z | z
              · have := hL.2.1 u (by omega) (Or.inr z)
                rw [z, q4] at this
                exact absurd this (nI_m1 (by omega))
              · exact z
            iterate 1 (refine kX_one rfl ?_)
            refine kX_getN rfl rfl (hEv) rfl ?_
            iterate 1 (refine kX_one rfl ?_)
            refine kX_getN rfl rfl (hEv) rfl ?_
            refine kX_top (x3.1) ?_
            iterate 1 (refine kX_one rfl ?_)
            refine kX_iastN rfl (hE3) (by decide) (pl.length) (by first | rfl | decide) (q3) ?_
            iterate 2 (refine kX_one rfl ?_)
            refine kX_getN rfl rfl (hEv) rfl ?_
            refine kX_top (y := nI pl.length) (by rw [up_ne (by omega)]; exact x3.1) ?_
            iterate 2 (refine kX_one rfl ?_)
            refine kX_putN rfl rfl (hEv) rfl (rfl) rfl ?_
            refine k131 _ (pl ++ [u]) ⟨⟨fun c y1 y2 y3 y4 => ?_, fun j hj => ?_⟩, ?_, plQ_add hI ht hL hm x3 hat q hmu q4 ?_ ?_, plW_app x4 ?_, ?_, ?_, fun y hy => ?_⟩
            · rw [up_ne y2, up_ne y3]
              exact x1.1 c y1 y2 y3 y4
            · rw [up_eq, up_ne (by omega)]
              exact (pk_un hj).trans (x1.2 j hj)
            · rw [up_ne (by omega), up_ne (by omega)]
              exact x2
            · rw [up_eq, ← nI_1]
              exact pk_us
            · rw [up_ne (by omega), up_eq]
            · rw [up_ne (by omega), up_ne (by omega)]
            · rw [up_ne (by omega), up_eq, List.length_append]
              exact tL_up x5 (by omega)
            · rw [List.length_append]
              simp only [List.length_cons, List.length_nil]
              omega
            · rcases List.mem_append.mp hy with hy | hy
              · exact x7 y hy
              · rw [List.mem_singleton.mp hy]
                exact hM.2.1 u (by omega) hmu
  have loop2 : ∀ LV, lvI σ TL t m bl M LV (t + 1) → ∀ q : Nat × kS × List Nat, (q.1 ≤ m + 1 ∧ plX σ q.2.1 a n t m M LV TL q.2.2 q.1 0 q.1) → kX kT L xs (d + 4) 41 54 [(3, .int (nI q.1)), (0, .ref a), (1, .ref 1), (2, .ref 22)] [] q.2.1 (fun q σ' => q = none ∧ ∃ p, plF σ σ' a ∧ plJ σ' a n p (m + 1) ∧ aP σ' a t bl) := by
    intro LV hL
    refine kX_while (fun q : Nat × kS × List Nat => [(3, .int (nI q.1)), (0, .ref a), (1, .ref 1), (2, .ref 22)]) (fun q => q.2.1) _ (fun q => m + 1 - q.1) ?_
    rintro ⟨at', τ, pl⟩ ⟨i1, i2⟩ ih
    dsimp only at i1 i2 ih ⊢
    have hX := i2
    obtain ⟨x1, x2, x3, x4, x5, x6, x7⟩ := i2
    have ebc : τ a 4 = nI m := (x1.2 _ (by decide)).trans hbc
    iterate 2 (refine kX_one rfl ?_)
    refine kX_getN rfl rfl (hEv) rfl ?_
    refine kX_top (ebc) ?_
    repeat refine kX_one rfl ?_
    refine kX_if (fun q => ?_) (fun q => ?_)
    · have q := qgt q at' m
      obtain rfl : at' = m + 1 := by omega
      refine kX_ret (i := .return_) (len := 1) rfl (Or.inr rfl) rfl (⟨rfl, pl.length, x1, ⟨x6, x3.1, x5, fun j hj => by obtain ⟨f, f1, f2, -⟩ := x4 j hj; exact ⟨f, by omega, f2⟩⟩, fin LV τ pl hL hX⟩)
    · have q := qgtF q at' m
      iterate 1 (refine kX_one rfl ?_)
      refine kX_getN rfl rfl (hEv) rfl ?_
      iterate 2 (refine kX_one rfl ?_)
      refine kX_getN rfl rfl (hEv) rfl ?_
      refine kX_top (x3.1) ?_
      refine kX_iastN rfl (hE4) (by decide) (at') (by first | rfl | decide) (by omega) ?_
      iterate 2 (refine kX_one rfl ?_)
      refine kX_lv _ rfl rfl rfl (loop3 LV hL at' q (fun τ' pl' y1 => ?_) (0, va_up τ (a + 4) (upd (τ (a + 4)) at' (nI pl.length)), pl) ⟨Nat.zero_le _, ⟨fun c y1 y2 y3 y4 => ?_, fun j hj => ?_⟩, ?_, ⟨?_, ?_, x3.2.2.1, x3.2.2.2.1, x3.2.2.2.2⟩, fun j hj => ?_, ?_, x6, x7⟩)
      · iterate 2 (refine kX_one rfl ?_)
        have := ih (at' + 1, τ', pl') ⟨by simp only; omega, y1⟩ (by simp only; omega)
        dsimp only at this
        rw [← nI_1] at this
        exact kX_lv _ rfl rfl rfl this
      · simp only
        rw [up_ne y4]
        exact x1.1 c y1 y2 y3 y4
      · simp only
        rw [up_ne (by omega)]
        exact x1.2 j hj
      · simp only
        rw [up_ne (by omega)]
        exact x2
      · simp only
        rw [up_ne (by omega)]
        exact x3.1
      · simp only
        rw [up_ne (by omega)]
        exact x3.2.1
      · simp only
        rw [up_eq]
        by_cases e : j = at'
        · subst e
          refine ⟨pl.length, Nat.le_refl _, pk_us, fun i hi _ => ?_⟩
          obtain ⟨-, -, l, l1, l2, l3⟩ := (x3.2.2.2.1 _).mp (List.getElem_mem hi)
          exact ⟨l, l2, l1, by omega⟩
        · rw [pk_un e]
          exact x4 j (by omega)
      · simp only
        rw [up_ne (by omega)]
        exact x5
  have loop1 : ∀ q : Nat × (Nat → Int32), (q.1 ≤ t + 1 ∧ lvI σ TL t m bl M q.2 q.1) → kX kT L xs (d + 4) 41 8 [(3, .int (nI q.1)), (0, .ref a), (1, .ref 1), (2, .ref 22)] [] (va_up σ 22 q.2) (fun q σ' => q = none ∧ ∃ p, plF σ σ' a ∧ plJ σ' a n p (m + 1) ∧ aP σ' a t bl) := by
    refine kX_while (fun q : Nat × (Nat → Int32) => [(3, .int (nI q.1)), (0, .ref a), (1, .ref 1), (2, .ref 22)]) (fun q => va_up σ 22 q.2) _ (fun q => t + 1 - q.1) ?_
    rintro ⟨u, LV⟩ ⟨i1, i2⟩ ih
    dsimp only at i1 i2 ih ⊢
    have k47 : u = t + 1 → kX kT L xs (d + 4) 41 47 [(3, .int (nI u)), (0, .ref a), (1, .ref 1), (2, .ref 22)] [] (va_up σ 22 LV) (fun q σ' => q = none ∧ ∃ p, plF σ σ' a ∧ plJ σ' a n p (m + 1) ∧ aP σ' a t bl) := by
      intro hu
      rw [hu] at i2
      iterate 2 (refine kX_one rfl ?_)
      refine kX_putN rfl rfl (hEv) rfl (rfl) rfl ?_
      iterate 2 (refine kX_one rfl ?_)
      refine kX_lv _ rfl rfl rfl (loop2 LV i2 (0, va_up (va_up σ 22 LV) a (upd (va_up σ 22 LV a) 7 (Int32.ofInt 0)), []) ⟨Nat.zero_le _, ⟨fun c x1 x2 x3 x4 => ?_, fun j hj => ?_⟩, ?_, ⟨?_, lst_nil _, List.Pairwise.nil, fun w => ⟨fun z => (by cases z), fun z => ?_⟩, fun i hi => absurd hi (Nat.not_lt_zero i)⟩, fun j hj => absurd hj (Nat.not_lt_zero j), fun j hj => absurd hj (Nat.not_lt_zero j), Nat.zero_le _, fun x hx => (by cases hx)⟩)
      · simp only
        rw [up_ne x2, up_ne x1]
      · simp only
        rw [up_eq, up_ne (by omega)]
        exact pk_un hj
      · simp only
        rw [up_ne (by omega), up_eq]
      · simp only
        rw [up_eq]
        rfl
      · obtain ⟨-, -, l, -, -, q⟩ := z
        omega
    iterate 2 (refine kX_one rfl ?_)
    refine kX_getN rfl rfl (hEv) rfl ?_
    refine kX_top (y := nI t) (by rw [up_ne (by omega)]; exact hte) ?_
    repeat refine kX_one rfl ?_
    refine kX_if (fun q => ?_) (fun q => ?_)
    · have q := qgt q u t
      exact k47 (by omega)
    · have q := qgtF q u t
      iterate 3 (refine kX_one rfl ?_)
      refine kX_top (h.2.1) ?_
      repeat refine kX_one rfl ?_
      refine kX_if (fun q2 => ?_) (fun q2 => ?_)
      · have q2 := qge q2 u n
        omega
      · have q2 := qgeF q2 u n
        have k41 : ∀ LV', lvI σ TL t m bl M LV' (u + 1) → kX kT L xs (d + 4) 41 41 [(3, .int (nI u)), (0, .ref a), (1, .ref 1), (2, .ref 22)] [] (va_up σ 22 LV') (fun q σ' => q = none ∧ ∃ p, plF σ σ' a ∧ plJ σ' a n p (m + 1) ∧ aP σ' a t bl) := by
          intro LV' hL'
          iterate 2 (refine kX_one rfl ?_)
          have := ih (u + 1, LV') ⟨by simp only; omega, hL'⟩ (by simp only; omega)
          dsimp only at this
          rw [← nI_1] at this
          exact kX_lv _ rfl rfl rfl this
        have elu : LV u = M u := i2.2.1 u (by omega) (Or.inl (Nat.le_refl _))
        iterate 2 (refine kX_one rfl ?_)
        refine kX_ialdN rfl rfl (by decide) (u) (by first | rfl | decide) (by omega) ?_
        iterate 1 (refine kX_one rfl ?_)
        repeat refine kX_one rfl ?_
        refine kX_if (fun q3 => ?_) (fun q3 => ?_)
        · have q3 : LV u = -1 := qeq q3
          exact k41 LV (lvI_skip i2 (fun z => absurd (q3.symm.trans (elu.trans z)) (by decide)))
        · have q3 : LV u ≠ -1 := qeqF q3
          have hmu : M u = 0 := (hM.1 u (by omega)).elim (fun z => absurd (elu.trans z) q3) id
          iterate 6 (refine kX_one rfl ?_)
          refine kX_cal (hlev LV u q2) rfl (Or.inr rfl) rfl (jcall_v rfl rfl rfl (hEv) rfl rfl) rfl (fun r1 σ1 q1 => ?_)
          obtain ⟨⟨y, rfl, hy⟩, rfl⟩ := q1
          refine kX_iastN rfl rfl (by decide) (u) (by first | rfl | decide) (by omega) ?_
          refine kX_st (va_up σ 22 (upd LV u y)) ?_ (k41 _ (lvI_step (τ := va_up σ 22 LV) (a := a) hI ht hbl hm (fun i hi => ?_) hbi hbk i2 q hmu hy rfl rfl rfl rfl rfl))
          · funext c; first
              | ((repeat (refine va_case ?_ ?_; (· (intro h; first | (subst h; rfl) | (unfold va_up; repeat' split; (all_goals first | rfl | omega | (subst_vars; rfl) | (funext j; unfold upd; repeat' split; all_goals first | rfl | omega | (subst_vars; rfl)))))); intro h)); (repeat (refine va_case2 ?_ ?_; (· (intro h; first | exact absurd h (by assumption) | (subst h; rfl) | (subst h; funext j; unfold upd; repeat' split; (all_goals first | rfl | omega | (subst_vars; rfl))))); intro h)); rfl)
              | (unfold va_up; repeat' split
                 all_goals first | rfl | omega | (subst_vars; rfl) | (funext j; unfold upd; repeat' split; all_goals first | rfl | omega | (subst_vars; rfl)))
          · rw [up_ne (by omega)]
            exact hbn i hi
  iterate 2 (refine kX_one rfl ?_)
  exact kX_lv _ rfl rfl rfl (loop1 (0, M) ⟨Nat.zero_le _, hM, fun j hj _ => rfl, fun j hj => absurd hj (Nat.not_lt_zero j)⟩)
end
