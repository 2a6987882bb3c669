/-! alike: receives, the reference's loops -/
theorem lI_add (a b : Nat) : lI a + lI b = lI (a + b) := by
  unfold lI
  rw [← Int64.ofInt_add]
  congr 1
theorem lc_le {a : Nat} (ha : a < 9223372036854775808) : lg_cmp (lI a) 20000 ≤ 0 ↔ a ≤ 20000 := by
  have e : (20000 : Int64) = lI 20000 := by decide
  rw [e]
  refine ⟨fun q => ?_, fun q => ?_⟩
  · have q : lI a ≤ lI 20000 := lw_le (decide_eq_true q)
    rw [Int64.le_iff_toInt_le, lI_toInt ha, lI_toInt (by omega)] at q
    omega
  · have : ¬ lI a > lI 20000 := by
      show ¬ lI 20000 < lI a
      rw [Int64.lt_iff_toInt_lt, lI_toInt ha, lI_toInt (by omega)]
      omega
    unfold lg_cmp
    rw [if_neg this]
    split <;> decide
theorem mn_mul (P c : Nat) : min (min P 20001 * c) 20001 = min (P * c) 20001 := by
  by_cases h : P ≤ 20001
  · rw [Nat.min_eq_left h]
  · rw [Nat.min_eq_right (show 20001 ≤ P by omega)]
    rcases Nat.eq_zero_or_pos c with rfl | hc
    · simp
    · have h1 : 20001 * 1 ≤ 20001 * c := Nat.mul_le_mul_left _ hc
      have h2 : 20001 * 1 ≤ P * c := Nat.mul_le_mul (by omega) hc
      rw [Nat.min_eq_right (by omega), Nat.min_eq_right (by omega)]
/-- what is open, of the first k VARIABLES -/
noncomputable def opF (σ : kS) (s : Nat) (vs : List Nat) (k : Nat) : List Nat := fl (fun u => σ 265 (6 * s + fN (σ 241 u)) < 0) (vs.take k)
noncomputable def opM (σ : kS) (n : Nat) (op : List Nat) : Nat := min (wyN (op.map (fun u => cnt (ofs σ u) n))) 20001
set_option maxRecDepth 100000 in
set_option maxHeartbeats 4000000 in
theorem mf_rc_open (L : Nat) (xs : Nat → Int32) (d : Nat) (σ : kS) (n b s : Nat) (vs : List Nat) (h : mTb σ n b) (hs : s < 4) (hst : σ 232 22 = nI vs.length) (hv : lst (σ 251) vs) (h24 : vs.length ≤ 24) (hnd : vs.Pairwise (fun x y => x ≠ y)) (h1 : ∀ u ∈ vs, u < 200 ∧ ∃ k, k < 6 ∧ σ 241 u = nI k) (h2 : ∀ u ∈ vs, ∀ v ∈ vs, u ≠ v → σ 241 u ≠ σ 241 v) (x t : Int32) (Q : Option Value → kS → Prop)
    (he : ∀ O, lst O (opF σ s vs vs.length) → kX kT L xs (d + 3) 217 107 [(0, .ref 232), (1, .int x), (2, .int (nI s)), (3, .int t), (4, .int (nI (opF σ s vs vs.length).length)), (5, .long (lI (opM σ n (opF σ s vs vs.length))))] [] (va_up σ 292 O) Q) :
    ∀ q : Nat × (Nat → Int32), (q.1 ≤ vs.length ∧ lst q.2 (opF σ s vs q.1)) → kX kT L xs (d + 3) 217 14 [(7, .int (nI q.1)), (0, .ref 232), (1, .int x), (2, .int (nI s)), (3, .int t), (4, .int (nI (opF σ s vs q.1).length)), (5, .long (lI (opM σ n (opF σ s vs q.1))))] [] (va_up σ 292 q.2) Q := by
  have hn := h.1
  refine kX_while (fun q : Nat × (Nat → Int32) => [(7, .int (nI q.1)), (0, .ref 232), (1, .int x), (2, .int (nI s)), (3, .int t), (4, .int (nI (opF σ s vs q.1).length)), (5, .long (lI (opM σ n (opF σ s vs q.1))))]) (fun q => va_up σ 292 q.2) _ (fun q => vs.length - q.1) ?_
  rintro ⟨k, O⟩ ⟨i1, i2⟩ ih
  dsimp only at i1 i2 ih ⊢
  have hopv : ∀ k, ∀ u ∈ opF σ s vs k, u ∈ vs := fun k u hu => List.mem_of_mem_take (fl_mem.mp hu).1
  have hpw : ∀ k, (opF σ s vs k).Pairwise (fun x y => x ≠ y) := fun k => fl_nd (List.Pairwise.sublist (List.take_sublist k vs) hnd)
  have h6 : ∀ k, (opF σ s vs k).length ≤ 6 := fun k => op_len (hpw k) (fun u hu => (h1 u (hopv k u hu)).2) (fun u hu v hv' => h2 u (hopv k u hu) v (hopv k v hv'))
  iterate 3 (refine kX_one rfl ?_)
  refine kX_top (hst) ?_
  repeat refine kX_one rfl ?_
  refine kX_if (fun q => ?_) (fun q => ?_)
  · have q := qge q k vs.length
    obtain rfl : k = vs.length := by omega
    exact kX_lv _ rfl rfl rfl (he O i2)
  · have q := qgeF q k vs.length
    have hmem : vs[k] ∈ vs := List.getElem_mem q
    obtain ⟨u1, z, z1, z2⟩ := h1 _ hmem
    have hlk := hv k q
    have hfz : fN (σ 241 vs[k]) = z := by rw [z2]; exact fN_nI (by omega)
    have hop : opF σ s vs (k + 1) = opF σ s vs k ++ cit (σ 265 (6 * s + fN (σ 241 vs[k])) < 0) [vs[k]] [] := by
      unfold opF
      rw [List.take_succ_eq_append_getElem q, fl_app]
    have h6k := h6 (k + 1)
    generalize hu : vs[k] = u at *
    have k101 : ∀ O', lst O' (opF σ s vs (k + 1)) → ∀ τ, τ = va_up σ 292 O' → kX kT L xs (d + 3) 217 101 [(7, .int (nI k)), (0, .ref 232), (1, .int x), (2, .int (nI s)), (3, .int t), (4, .int (nI (opF σ s vs (k + 1)).length)), (5, .long (lI (opM σ n (opF σ s vs (k + 1)))))] [] τ Q := by
      intro O' hI τ hτ
      subst hτ
      iterate 2 (refine kX_one rfl ?_)
      have := ih (k + 1, O') ⟨q, hI⟩ (by simp only; omega)
      dsimp only at this
      rw [← nI_1] at this
      exact kX_lv _ rfl rfl rfl this
    have k48 : σ 265 (6 * s + z) < 0 → kX kT L xs (d + 3) 217 48 [(7, .int (nI k)), (0, .ref 232), (1, .int x), (2, .int (nI s)), (3, .int t), (4, .int (nI (opF σ s vs k).length)), (5, .long (lI (opM σ n (opF σ s vs k))))] [] (va_up σ 292 O) Q := by
      intro hneg
      have hop2 : opF σ s vs (k + 1) = opF σ s vs k ++ [u] := by
        rw [hop, cit_T (by rw [hfz]; exact hneg)]
      rw [hop2] at k101 h6k
      rw [List.length_append] at h6k
      simp only [List.length_cons, List.length_nil] at h6k
      have hM : opM σ n (opF σ s vs k ++ [u]) = min (opM σ n (opF σ s vs k) * cnt (ofs σ u) n) 20001 := by
        unfold opM
        rw [List.map_append, List.map_singleton, wyN_app, mn_mul]
      have hMle : opM σ n (opF σ s vs k) ≤ 20001 := Nat.min_le_right _ _
      have hcn : cnt (ofs σ u) n ≤ n := cnt_le _ _
      have hpr : opM σ n (opF σ s vs k) * cnt (ofs σ u) n ≤ 20001 * 200 := Nat.mul_le_mul hMle (by omega)
      have hlst : lst (upd O (opF σ s vs k).length (nI u)) (opF σ s vs k ++ [u]) := lst_push i2 u
      have k96 : ∀ my1 my', my' = lI (opM σ n (opF σ s vs k ++ [u])) → kX kT L xs (d + 3) 217 96 [(7, .int (nI k)), (0, .ref 232), (1, .int x), (2, .int (nI s)), (3, .int t), (4, .int (nI (opF σ s vs k).length)), (5, .long my1)] [.long my'] (va_up σ 292 (upd O (opF σ s vs k).length (nI u))) Q := by
        intro my1 my' hm
        subst hm
        iterate 2 (refine kX_one rfl ?_)
        have := k101 _ hlst _ rfl
        rw [show nI (opF σ s vs k ++ [u]).length = nI (opF σ s vs k).length + 1 by rw [nI_1]; simp] at this
        exact kX_lv _ rfl rfl rfl this
      iterate 6 (refine kX_one rfl ?_)
      refine kX_ialdV rfl rfl (by decide) (k) (by first | rfl | decide) (by omega) (hlk) ?_
      refine kX_iastN rfl rfl (by decide) ((opF σ s vs k).length) (by first | rfl | decide) (by omega) ?_
      refine kX_st (va_up σ 292 (upd O (opF σ s vs k).length (nI u))) ?_ ?_
      · funext c; unfold  va_up; repeat' split
        all_goals first | rfl | omega | (subst_vars; rfl) | (funext j; unfold upd; repeat' split; all_goals first | rfl | omega | (subst_vars; rfl))
      iterate 5 (refine kX_one rfl ?_)
      refine kX_ialdV rfl rfl (by decide) (k) (by first | rfl | decide) (by omega) (hlk) ?_
      refine kX_cal (mr_howMany L xs d (va_up σ 292 (upd O (opF σ s vs k).length (nI u))) n b u h u1) rfl (Or.inr rfl) rfl rfl rfl (fun r1 σ1 q1 => ?_)
      obtain ⟨rfl, rfl⟩ := q1
      have hcnt : cnt (ofs (va_up σ 292 (upd O (opF σ s vs k).length (nI u))) u) n = cnt (ofs σ u) n := rfl
      rw [hcnt]
      have hmul : lI (opM σ n (opF σ s vs k)) * (nI (cnt (ofs σ u) n)).toInt64 = lI (opM σ n (opF σ s vs k) * cnt (ofs σ u) n) := by
        rw [nI_lI (by omega), lI_mul]
      generalize opM σ n (opF σ s vs k) * cnt (ofs σ u) n = PM at *
      iterate 6 (refine kX_one rfl ?_)
      repeat refine kX_one rfl ?_
      refine kX_if (fun q2 => ?_) (fun q2 => ?_)
      · have q2 : lg_cmp (lI (opM σ n (opF σ s vs k)) * (nI (cnt (ofs σ u) n)).toInt64) 20000 ≤ 0 := of_decide_eq_true q2
        rw [hmul, lc_le (by omega)] at q2
        iterate 1 (refine kX_one rfl ?_)
        refine kX_lv _ rfl rfl rfl (k96 (lI (opM σ n (opF σ s vs k)) * (nI (cnt (ofs σ u) n)).toInt64) (lI (opM σ n (opF σ s vs k)) * (nI (cnt (ofs σ u) n)).toInt64) ?_)
        rw [hmul, hM, Nat.min_eq_left (by omega)]
      · have q2 : ¬ lg_cmp (lI (opM σ n (opF σ s vs k)) * (nI (cnt (ofs σ u) n)).toInt64) 20000 ≤ 0 := of_decide_eq_false q2
        rw [hmul, lc_le (by omega)] at q2
        iterate 2 (refine kX_one rfl ?_)
        refine kX_lv _ rfl rfl rfl (k96 (lI (opM σ n (opF σ s vs k)) * (nI (cnt (ofs σ u) n)).toInt64) 20001 ?_)
        rw [hM, Nat.min_eq_right (by omega)]
        decide
    iterate 10 (refine kX_one rfl ?_)
    refine kX_ialdV rfl rfl (by decide) (k) (by first | rfl | decide) (by omega) (hlk) ?_
    refine kX_ialdV rfl rfl (by decide) (u) (by first | rfl | decide) (u1) (z2) ?_
    iterate 1 (refine kX_one rfl ?_)
    refine kX_ialdN rfl rfl (by decide) (6 * s + z) (ix6 s z) (by omega) ?_
    repeat refine kX_one rfl ?_
    refine kX_if (fun q2 => ?_) (fun q2 => ?_)
    · have q2 : ¬ σ 265 (6 * s + z) < 0 := Int32.not_lt.mpr (of_decide_eq_true q2)
      have hop2 : opF σ s vs (k + 1) = opF σ s vs k := by
        rw [hop, cit_F (by rw [hfz]; exact q2), List.append_nil]
      rw [hop2] at k101
      exact k101 O i2 _ rfl
    · exact k48 (Int32.not_le.mp (of_decide_eq_false q2))
/-- the options of what is open -/
def opW (σ : kS) (n : Nat) (op : List Nat) (os : List (List Nat)) : Prop := os.length = op.length ∧ op.length ≤ 6 ∧ ∀ p (h : p < op.length) (h' : p < os.length), op[p]'h < 200 ∧ ∃ so, so ≤ 3 ∧ σ 240 (op[p]'h) = nI so ∧ os[p]'h' = opL σ so n
/-- chosen: the way w, for VARIABLES from lo on below hi -/
def chW (os : List (List Nat)) (CH : Nat → Int32) (w lo hi : Nat) : Prop := ∀ p (h : p < os.length) (h' : p < (dg (os.map List.length) w).length), lo ≤ p → p < hi → CH p = nI ((os[p]'h).getD ((dg (os.map List.length) w)[p]'h') 0)
set_option maxRecDepth 100000 in
set_option maxHeartbeats 4000000 in
theorem mf_rc_first (L : Nat) (xs : Nat → Int32) (d : Nat) (σ τ : kS) (n b0 b : Nat) (op : List Nat) (os : List (List Nat)) (h : mTb σ n b0) (hF : mSf σ τ n) (hT : mTb τ n b) (hO : opW σ n op os) (ho : lst (τ 292) op) (hpos : ∀ c ∈ os.map List.length, 0 < c) (x s t : Int32) (my : Int64) (Q : Option Value → kS → Prop)
    (he : ∀ CH, chW os CH 0 0 op.length → kX kT L xs (d + 3) 217 189 [(0, .ref 232), (1, .int x), (2, .int s), (3, .int t), (4, .int (nI op.length)), (5, .long my)] [] (va_up τ 293 CH) Q) :
    ∀ q : Nat × (Nat → Int32), (q.1 ≤ op.length ∧ chW os q.2 0 0 q.1) → kX kT L xs (d + 3) 217 157 [(7, .int (nI q.1)), (0, .ref 232), (1, .int x), (2, .int s), (3, .int t), (4, .int (nI op.length)), (5, .long my)] [] (va_up τ 293 q.2) Q := by
  obtain ⟨o1, o6, o2⟩ := hO
  refine kX_while (fun q : Nat × (Nat → Int32) => [(7, .int (nI q.1)), (0, .ref 232), (1, .int x), (2, .int s), (3, .int t), (4, .int (nI op.length)), (5, .long my)]) (fun q => va_up τ 293 q.2) _ (fun q => op.length - q.1) ?_
  rintro ⟨k, CH⟩ ⟨i1, i2⟩ ih
  dsimp only at i1 i2 ih ⊢
  iterate 2 (refine kX_one rfl ?_)
  repeat refine kX_one rfl ?_
  refine kX_if (fun q => ?_) (fun q => ?_)
  · have q := qge q k op.length
    obtain rfl : k = op.length := by omega
    exact kX_lv _ rfl rfl rfl (he CH i2)
  · have q := qgeF q k op.length
    obtain ⟨u1, so, s1, s2, s3⟩ := o2 k q (by omega)
    have hl : 0 < (opL σ so n).length := by
      have := hpos _ (List.mem_map.mpr ⟨_, List.getElem_mem (show k < os.length by omega), rfl⟩)
      rw [s3] at this
      exact this
    iterate 7 (refine kX_one rfl ?_)
    refine kX_ialdV rfl rfl (by decide) (k) (by first | rfl | decide) (by omega) (ho k q) ?_
    iterate 1 (refine kX_one rfl ?_)
    refine kX_cal (mr_nextOf L xs d (va_up τ 293 CH) n b op[k] 0 hT u1 (Nat.zero_le _)) rfl (Or.inr rfl) rfl rfl rfl (fun r1 σ1 q1 => ?_)
    obtain ⟨hx, rfl⟩ := q1
    obtain rfl := (nx_at (σ := σ) (τ := va_up τ 293 CH) (j := 0) (ofs_gS h (mSf_trans hF (mSf_up (c := 293) (by decide))) s2 s1) (Or.inl ⟨rfl, rfl⟩) hx).1 hl
    refine kX_iastN rfl rfl (by decide) (k) (by first | rfl | decide) (by omega) ?_
    iterate 2 (refine kX_one rfl ?_)
    have := ih (k + 1, upd CH k (nI ((opL σ so n)[0]'hl))) ⟨q, fun p hp hp' _ hpk => by
      simp only at hpk ⊢
      by_cases e : p = k
      · subst e
        rw [pk_us, dg_0 (os.map List.length) p (by rw [List.length_map]; exact hp), s3, List.getD_eq_getElem?_getD, List.getElem?_eq_getElem hl]
        rfl
      · rw [pk_un e]
        exact i2 p hp hp' (Nat.zero_le _) (by omega)⟩ (by simp only; omega)
    dsimp only at this
    rw [← nI_1] at this
    refine kX_to _ _ rfl rfl rfl ?_ this
    funext c; unfold  va_up; repeat' split
    all_goals first | rfl | omega | (subst_vars; rfl) | (funext j; unfold upd; repeat' split; all_goals first | rfl | omega | (subst_vars; rfl))
