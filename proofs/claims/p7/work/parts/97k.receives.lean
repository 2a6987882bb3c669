/-! the reference: receives, its loops -/
theorem ddl_nd : ∀ (l acc : List Nat), acc.Pairwise (fun x y => x ≠ y) → (ddl acc l).Pairwise (fun x y => x ≠ y)
  | [], _, h => h
  | a :: l, acc, h => by
    rw [ddl_cons]
    refine ddl_nd l _ ?_
    split
    · exact h
    · next e =>
      rw [List.pairwise_append]
      refine ⟨h, List.pairwise_singleton _ _, fun x hx y hy q => ?_⟩
      rw [List.mem_singleton] at hy
      subst hy
      exact e (q ▸ hx)
theorem op_len {σ : kS} {op : List Nat} (h : op.Pairwise (fun x y => x ≠ y)) (h1 : ∀ u ∈ op, ∃ k, k < 6 ∧ σ 241 u = nI k) (h2 : ∀ u ∈ op, ∀ v ∈ op, u ≠ v → σ 241 u ≠ σ 241 v) : op.length ≤ 6 := by
  have hp : (op.map (fun u => fN (σ 241 u))).Pairwise (fun x y => x ≠ y) := by
    rw [List.pairwise_map]
    refine List.Pairwise.imp_of_mem (fun {a b} ha hb hab e => ?_) h
    obtain ⟨k, k1, k2⟩ := h1 a ha
    obtain ⟨k', k1', k2'⟩ := h1 b hb
    rw [k2, k2', fN_nI (by omega), fN_nI (by omega)] at e
    exact h2 a ha b hb hab (by rw [k2, k2', e])
  have := nodup_le (m := 6) hp (fun x hx => by
    obtain ⟨u, hu, rfl⟩ := List.mem_map.mp hx
    obtain ⟨k, k1, k2⟩ := h1 u hu
    rw [k2, fN_nI (by omega)]
    exact k1)
  rw [List.length_map] at this
  exact this
/-- what is open -/
def opI (σ : kS) (n s : Nat) (vs op : List Nat) (O : Nat → Int32) (my : Int64) (k : Nat) : Prop := lst O op ∧ (∀ u, u ∈ op ↔ u ∈ vs.take k ∧ σ 265 (6 * s + fN (σ 241 u)) < 0) ∧ op.Pairwise (fun x y => x ≠ y) ∧ (my = 0 ∨ ∀ u ∈ op, ∃ z, z < n ∧ ofs σ u z)
set_option maxRecDepth 100000 in
set_option maxHeartbeats 4000000 in
theorem mr_rc_open (L : Nat) (xs : Nat → Int32) (d : Nat) (σ : kS) (n b s : Nat) (vs : List Nat) (h : mTb σ n b) (hs : s < 4) (hst : σ 232 22 = nI vs.length) (hv : lst (σ 251) vs) (h24 : vs.length ≤ 24) (hnd : vs.Pairwise (fun x y => x ≠ y)) (h1 : ∀ u ∈ vs, u < 200 ∧ ∃ k, k < 6 ∧ σ 241 u = nI k) (h2 : ∀ u ∈ vs, ∀ v ∈ vs, u ≠ v → σ 241 u ≠ σ 241 v) (x t : Int32) (Q : Option Value → kS → Prop)
    (he : ∀ op O my, opI σ n s vs op O my vs.length → op.length ≤ 6 → kX kT L xs (d + 3) 217 107 [(0, .ref 232), (1, .int x), (2, .int (nI s)), (3, .int t), (4, .int (nI op.length)), (5, .long my)] [] (va_up σ 292 O) Q) :
    ∀ q : Nat × List Nat × (Nat → Int32) × Int64, (q.1 ≤ vs.length ∧ opI σ n s vs q.2.1 q.2.2.1 q.2.2.2 q.1) → kX kT L xs (d + 3) 217 14 [(7, .int (nI q.1)), (0, .ref 232), (1, .int x), (2, .int (nI s)), (3, .int t), (4, .int (nI q.2.1.length)), (5, .long q.2.2.2)] [] (va_up σ 292 q.2.2.1) Q := by
  refine kX_while (fun q : Nat × List Nat × (Nat → Int32) × Int64 => [(7, .int (nI q.1)), (0, .ref 232), (1, .int x), (2, .int (nI s)), (3, .int t), (4, .int (nI q.2.1.length)), (5, .long q.2.2.2)]) (fun q => va_up σ 292 q.2.2.1) _ (fun q => vs.length - q.1) ?_
  rintro ⟨k, op, O, my⟩ ⟨i1, i2, i3, i4, i5⟩ ih
  dsimp only at i1 i2 i3 i4 i5 ih ⊢
  have hopv : ∀ u ∈ op, u ∈ vs := fun u hu => List.mem_of_mem_take ((i3 u).mp hu).1
  have h6 := op_len i4 (fun u hu => (h1 u (hopv u hu)).2) (fun u hu v hv' => h2 u (hopv u hu) v (hopv v hv'))
  iterate 3 (refine kX_one rfl ?_)
  refine kX_top (hst) ?_
  repeat refine kX_one rfl ?_
  refine kX_if (fun q => ?_) (fun q => ?_)
  · have q := qge q k vs.length
    obtain rfl : k = vs.length := by omega
    exact kX_lv _ rfl rfl rfl (he op O my ⟨i2, i3, i4, i5⟩ h6)
  · have q := qgeF q k vs.length
    have hmem : vs[k] ∈ vs := List.getElem_mem q
    obtain ⟨u1, z, z1, z2⟩ := h1 _ hmem
    have hlk := hv k q
    have htk : ∀ u, u ∈ vs.take (k + 1) ↔ u ∈ vs.take k ∨ u = vs[k] := fun u => by
      rw [List.take_succ_eq_append_getElem q, List.mem_append, List.mem_singleton]
    have hnk : vs[k] ∉ vs.take k := fun hh => by
      obtain ⟨j, j1, j2⟩ := List.mem_iff_getElem.mp hh
      rw [List.length_take] at j1
      rw [List.getElem_take] at j2
      exact List.pairwise_iff_getElem.mp hnd j k (by omega) q (by omega) j2
    have hfz : fN (σ 241 vs[k]) = z := by rw [z2]; exact fN_nI (by omega)
    generalize hu : vs[k] = u at *
    have k101 : ∀ op' O' my', opI σ n s vs op' O' my' (k + 1) → ∀ τ, τ = va_up σ 292 O' → kX kT L xs (d + 3) 217 101 [(7, .int (nI k)), (0, .ref 232), (1, .int x), (2, .int (nI s)), (3, .int t), (4, .int (nI op'.length)), (5, .long my')] [] τ Q := by
      intro op' O' my' hI τ hτ
      subst hτ
      iterate 2 (refine kX_one rfl ?_)
      have := ih (k + 1, op', O', my') ⟨q, hI⟩ (by simp only; omega)
      dsimp only at this
      rw [← nI_1] at this
      exact kX_lv _ rfl rfl rfl this
    have k48 : σ 265 (6 * s + z) < 0 → kX kT L xs (d + 3) 217 48 [(7, .int (nI k)), (0, .ref 232), (1, .int x), (2, .int (nI s)), (3, .int t), (4, .int (nI op.length)), (5, .long my)] [] (va_up σ 292 O) Q := by
      intro hneg
      have hnop : u ∉ op := fun hh => hnk ((i3 u).mp hh).1
      have hpw : (op ++ [u]).Pairwise (fun x y => x ≠ y) := by
        rw [List.pairwise_append]
        refine ⟨i4, List.pairwise_singleton _ _, fun a ha b hb e => ?_⟩
        rw [List.mem_singleton] at hb
        subst hb
        exact hnop (e ▸ ha)
      have hin : ∀ v ∈ op ++ [u], v ∈ vs := fun v hv' => by
        rcases List.mem_append.mp hv' with e | e
        · exact hopv v e
        · rw [List.mem_singleton] at e
          subst e
          exact hmem
      have h6' := op_len hpw (fun u hu => (h1 u (hin u hu)).2) (fun u hu v hv' => h2 u (hin u hu) v (hin v hv'))
      rw [List.length_append] at h6'
      simp only [List.length_cons, List.length_nil] at h6'
      have hI' : ∀ my', (my' = 0 ∨ ∀ v ∈ op ++ [u], ∃ z, z < n ∧ ofs σ v z) → opI σ n s vs (op ++ [u]) (upd O op.length (nI u)) my' (k + 1) := by
        intro my' hm
        refine ⟨lst_push i2 u, fun v => ?_, hpw, hm⟩
        rw [List.mem_append, List.mem_singleton, i3 v, htk v]
        constructor
        · rintro (⟨e1, e2⟩ | rfl)
          · exact ⟨Or.inl e1, e2⟩
          · exact ⟨Or.inr rfl, by rw [hfz]; exact hneg⟩
        · rintro ⟨e1 | rfl, e2⟩
          · exact Or.inl ⟨e1, e2⟩
          · exact Or.inr rfl
      have k96 : ∀ my1 my', (my' = 0 ∨ ∀ v ∈ op ++ [u], ∃ z, z < n ∧ ofs σ v z) → kX kT L xs (d + 3) 217 96 [(7, .int (nI k)), (0, .ref 232), (1, .int x), (2, .int (nI s)), (3, .int t), (4, .int (nI op.length)), (5, .long my1)] [.long my'] (va_up σ 292 (upd O op.length (nI u))) Q := by
        intro my1 my' hm
        iterate 2 (refine kX_one rfl ?_)
        have := k101 _ _ my' (hI' my' hm) _ rfl
        rw [show nI (op ++ [u]).length = nI op.length + 1 by rw [nI_1]; simp] at this
        exact kX_lv _ rfl rfl rfl this
      iterate 6 (refine kX_one rfl ?_)
      refine kX_ialdV rfl rfl (by decide) (k) (by first | rfl | decide) (by omega) (hlk) ?_
      refine kX_iastN rfl rfl (by decide) (op.length) (by first | rfl | decide) (by omega) ?_
      refine kX_st (va_up σ 292 (upd O op.length (nI u))) ?_ ?_
      · funext c; unfold  va_up; repeat' split
        all_goals first | rfl | omega | (subst_vars; rfl) | (funext j; unfold upd; repeat' split; all_goals first | rfl | omega | (subst_vars; rfl))
      iterate 5 (refine kX_one rfl ?_)
      refine kX_ialdV rfl rfl (by decide) (k) (by first | rfl | decide) (by omega) (hlk) ?_
      refine kX_cal (mr_howMany L xs d (va_up σ 292 (upd O op.length (nI u))) n b u h u1) rfl (Or.inr rfl) rfl rfl rfl (fun r1 σ1 q1 => ?_)
      obtain ⟨rfl, rfl⟩ := q1
      have hcnt : cnt (ofs (va_up σ 292 (upd O op.length (nI u))) u) n = cnt (ofs σ u) n := rfl
      rw [hcnt]
      have hcn : cnt (ofs σ u) n ≤ n := cnt_le _ _
      have hn := h.1
      have hgood : my * (nI (cnt (ofs σ u) n)).toInt64 ≠ 0 → ∀ v ∈ op ++ [u], ∃ z, z < n ∧ ofs σ v z := by
        intro hne v hv'
        have hm0 : my ≠ 0 := fun e => hne (by rw [e, Int64.zero_mul])
        have hc0 : cnt (ofs σ u) n ≠ 0 := fun e => hne (by
          rw [e]
          exact Int64.mul_zero)
        rcases List.mem_append.mp hv' with e | e
        · rcases i5 with i5 | i5
          · exact absurd i5 hm0
          · exact i5 v e
        · rw [List.mem_singleton] at e
          subst e
          exact cnt_0 hc0
      iterate 6 (refine kX_one rfl ?_)
      repeat refine kX_one rfl ?_
      refine kX_if (fun q2 => ?_) (fun q2 => ?_)
      · iterate 1 (refine kX_one rfl ?_)
        refine kX_lv _ rfl rfl rfl (k96 (my * (nI (cnt (ofs σ u) n)).toInt64) (my * (nI (cnt (ofs σ u) n)).toInt64) ?_)
        by_cases e : my * (nI (cnt (ofs σ u) n)).toInt64 = 0
        · exact Or.inl e
        · exact Or.inr (hgood e)
      · iterate 2 (refine kX_one rfl ?_)
        refine kX_lv _ rfl rfl rfl (k96 (my * (nI (cnt (ofs σ u) n)).toInt64) 20001 (Or.inr (hgood (fun e => ?_))))
        have q2 := of_decide_eq_false q2
        dsimp only at q2
        rw [e] at q2
        exact q2 (by decide)
    iterate 10 (refine kX_one rfl ?_)
    refine kX_ialdV rfl rfl (by decide) (k) (by first | rfl | decide) (by omega) (hlk) ?_
    refine kX_ialdV rfl rfl (by decide) (u) (by first | rfl | decide) (u1) (z2) ?_
    iterate 1 (refine kX_one rfl ?_)
    refine kX_ialdN rfl rfl (by decide) (6 * s + z) (ix6 s z) (by omega) ?_
    repeat refine kX_one rfl ?_
    refine kX_if (fun q2 => ?_) (fun q2 => ?_)
    · have q2 : ¬ σ 265 (6 * s + z) < 0 := Int32.not_lt.mpr (of_decide_eq_true q2)
      refine k101 op O my ⟨i2, fun v => ?_, i4, i5⟩ _ rfl
      rw [i3 v, htk v]
      constructor
      · rintro ⟨e1, e2⟩
        exact ⟨Or.inl e1, e2⟩
      · rintro ⟨e1 | rfl, e2⟩
        · exact ⟨e1, e2⟩
        · rw [hfz] at e2
          exact absurd e2 q2
    · exact k48 (Int32.not_le.mp (of_decide_eq_false q2))
