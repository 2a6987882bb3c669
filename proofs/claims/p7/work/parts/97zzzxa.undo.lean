/-! alike: undo -/
theorem nbv_bls {σ : kS} {n b R r e k : Nat} (h : mTb σ n b) (hR : mRo σ n R) (hr : r < R) (he : e < fN (σ 247 r)) : nbv σ r e k ↔ σ 249 (6 * r + e) = 0 ∧ ∃ u ∈ bls σ r e, fN (σ 241 u) = k := by
  have hn := h.1
  constructor
  · rintro ⟨⟨k1, k2⟩, hb⟩
    rcases k2 with k2 | ⟨e', e1, e2, e3⟩
    · exact absurd ⟨k1, Or.inl k2⟩ hb
    · by_cases q : e' < e
      · exact absurd ⟨k1, Or.inr ⟨e', q, e2, e3⟩⟩ hb
      · obtain rfl : e' = e := by omega
        obtain ⟨t, so, as, t1, t2, -, -, t5, -⟩ := hR.2.2.2.1 r k hr k1
        have hk6 : k < 6 := by
          obtain ⟨⟨v, v1, v2⟩, -⟩ := hR.2.2.1 r hr
          rw [v2, fN_nI (by omega)] at k1
          omega
        have ek : fN (σ 241 t) = k := by rw [t5]; exact fN_nI (by omega)
        rw [t2, fN_nI (by omega)] at e3
        refine ⟨e2, t, fl_mem.mpr ⟨(ddl_mem _ _).mpr (Or.inr e3), ?_⟩, ek⟩
        show nbv σ r e' (fN (σ 241 t))
        rw [ek]
        exact ⟨⟨k1, Or.inr ⟨e', e1, e2, by rw [t2, fN_nI (by omega)]; exact e3⟩⟩, hb⟩
  · rintro ⟨-, u, u1, rfl⟩
    exact (fl_mem.mp u1).2
def tbA (A B : Nat → Int32) (s dn : Nat) (bl : List Nat) : Prop := B (7 * s) = nI dn ∧ (∀ i, i ≠ 7 * s → (∀ k, k < 6 → i ≠ 7 * s + 1 + k) → B i = A i) ∧ ∀ k, k < 6 → B (7 * s + 1 + k) = if k ∈ bl then -1 else A (7 * s + 1 + k)
set_option maxRecDepth 100000 in
set_option maxHeartbeats 4000000 in
theorem mf_takeBack (L : Nat) (xs : Nat → Int32) (d : Nat) (σ : kS) (n R S C s r dn c' ev : Nat) (bl : List Nat) (h : cJ σ n R S C) (hon : σ 181 8 ≠ 0) (hc : σ 181 7 = nI (c' + 1)) (hc4 : c' < 24) (hm : σ 183 c' = nI s) (hs : s < S) (hr : r < R) (hr2 : σ 15 s = nI r) (hat : σ 182 (7 * s) = nI (dn + 1)) (hev : σ (23 + 35 * r) 5 = nI ev) (hev6 : ev ≤ 6) (hdn : dn < ev) (hb1 : σ (28 + 35 * r + 5 * dn) 4 = nI bl.length) (hb6 : bl.length ≤ 6) (hb2 : ∀ j (hj : j < bl.length), (bl[j]'hj) < 6 ∧ σ (29 + 35 * r + 5 * dn) j = nI (bl[j]'hj)) : kXM kT L xs (d + 2) 71 [.ref 181] σ (fun q σ' => q = some (.int (nI c')) ∧ ∃ B, tbA (σ 182) B s dn bl ∧ σ' = va_up (va_up σ 181 (upd (upd (σ 181) 7 (nI c')) 9 (-1))) 182 B ∧ cJ σ' n R S C) := by
  have hS := h.2.2.1
  have hS4 := hS.1
  have hRo := h.2.1
  have hR4 := hRo.1
  have hRu := h.2.2.2.2.2.2.2.2.1
  have hr4 : r < 4 := by omega
  have hk6 : dn < 6 := by omega
  rcases hRu with hRu | ⟨on1, ⟨c, c1, c2, c3⟩, hV, hg⟩
  · exact absurd hRu hon
  obtain rfl : c = c' + 1 := nI_inj (c2.symm.trans hc)
  unfold kXM
  iterate 2 (refine kX_one rfl ?_)
  refine kX_top (c2) ?_
  repeat refine kX_one rfl ?_
  refine kX_ifF (decide_eq_false (nI_nle (by omega) (by omega))) ?_
  iterate 3 (refine kX_one rfl ?_)
  refine kX_top (c2) ?_
  iterate 2 (refine kX_one rfl ?_)
  refine kX_top (y := nI c') (nI_pred c') ?_
  iterate 5 (refine kX_one rfl ?_)
  refine kX_ialdV rfl rfl (by decide) c' (by rfl) (by omega) hm ?_
  iterate 4 (refine kX_one rfl ?_)
  refine kX_top (y := nI (7 * s)) (ix7s s) ?_
  iterate 5 (refine kX_one rfl ?_)
  refine kX_ialdV rfl rfl (by decide) (7 * s) (by rfl) (by omega) hat ?_
  iterate 2 (refine kX_one rfl ?_)
  refine kX_top (y := nI dn) (nI_pred dn) ?_
  refine kX_iastN rfl rfl (by decide) (7 * s) (by first | rfl | decide) (by omega) ?_
  refine kX_st (va_up (va_up σ 181 (upd (σ 181) 7 (nI c'))) 182 (upd (σ 182) (7 * s) (nI dn))) ?_ ?_
  · funext c; unfold  va_up; repeat' split
    all_goals first | rfl | omega | (subst_vars; rfl) | (funext j; unfold upd; repeat' split; all_goals first | rfl | omega | (subst_vars; rfl))
  have eo : ∀ A e, e < 181 ∨ 186 ≤ e → va_up (va_up σ 181 (upd (σ 181) 7 (nI c'))) 182 A e = σ e := fun A e he => by
    rw [up_ne (by omega), up_ne (by omega)]
  have hRo2 : ∀ A, cRo (va_up (va_up σ 181 (upd (σ 181) 7 (nI c'))) 182 A) n R := fun A => cRo_gr (Nat.le_refl _) (fun e e1 e2 => eo A e (by omega)) hRo
  iterate 5 (refine kX_one rfl ?_)
  refine kX_ialdV rfl rfl (by decide) (7 * s) (by rfl) (by omega) pk_us ?_
  refine kX_cal (mf_eventOf L xs d _ n R S s r ev _ (hRo2 (upd (σ 182) (7 * s) (nI dn))) hS4 hr hr2 ((congrFun (eo (upd (σ 182) (7 * s) (nI dn)) (23 + 35 * r) (by omega)) _).trans hev) hs hev6) rfl (Or.inr rfl) rfl rfl rfl (fun r1 σ1 q1 => ?_)
  obtain ⟨hq, rfl⟩ := q1
  rcases hq with ⟨rfl, hq⟩ | ⟨k, k1, k2, rfl, hE⟩
  · exact absurd rfl (hq dn hdn)
  obtain rfl : dn = k := nI_inj k2
  iterate 4 (refine kX_one rfl ?_)
  refine kX_getN rfl rfl (kT_ev hr4 hk6) rfl ?_
  refine kX_top (y := nI bl.length) ((congrFun (eo (upd (σ 182) (7 * s) (nI dn)) (28 + 35 * r + 5 * dn) (by omega)) _).trans hb1) ?_
  iterate 3 (refine kX_one rfl ?_)
  have loop := kX_while (T := kT) (L := L) (xs := xs) (d := d + 2) (mi := 71) (pc := 71) (Q := fun q σ' => q = some (.int (nI c')) ∧ ∃ B, tbA (σ 182) B s dn bl ∧ σ' = va_up (va_up σ 181 (upd (upd (σ 181) 7 (nI c')) 9 (-1))) 182 B ∧ cJ σ' n R S C) (fun q : Nat × (Nat → Int32) => [(5, .int (nI q.1)), (4, .int (nI bl.length)), (3, .ref (28 + 35 * r + 5 * dn)), (2, .int (nI (7 * s))), (1, .int (nI s)), (0, .ref 181)]) (fun q => va_up (va_up σ 181 (upd (σ 181) 7 (nI c'))) 182 q.2) (fun q => q.1 ≤ bl.length ∧ tbA (σ 182) q.2 s dn (bl.take q.1)) (fun q => bl.length - q.1) ?_ (0, upd (σ 182) (7 * s) (nI dn)) ⟨Nat.zero_le _, pk_us, fun i i1 _ => pk_un i1, fun k hk => by simp only [List.take_zero, List.not_mem_nil, if_false]; exact pk_un (by omega)⟩
  · exact kX_lv _ rfl rfl rfl loop
  · rintro ⟨j, A⟩ ⟨j1, j2⟩ ih
    dsimp only at j1 j2 ih ⊢
    iterate 2 (refine kX_one rfl ?_)
    repeat refine kX_one rfl ?_
    refine kX_if (fun q3 => ?_) (fun q3 => ?_)
    · have q3 := qge q3 j bl.length
      obtain rfl : j = bl.length := by omega
      rw [List.take_length] at j2
      iterate 5 (refine kX_one rfl ?_)
      have e2 : ∀ e, e < 181 ∨ 186 ≤ e → va_up (va_up σ 181 (upd (upd (σ 181) 7 (nI c')) 9 (Int32.ofInt (-1)))) 182 A e = σ e := fun e he => by
        rw [up_ne (by omega), up_ne (by omega)]
      refine kX_st (va_up (va_up σ 181 (upd (upd (σ 181) 7 (nI c')) 9 (Int32.ofInt (-1)))) 182 A) ?_ ?_
      · funext c; unfold  va_up; repeat' split
        all_goals first | rfl | omega | (subst_vars; rfl) | (funext j; unfold upd; repeat' split; all_goals first | rfl | omega | (subst_vars; rfl))
      refine kX_ret (i := .ireturn) (len := 1) rfl (Or.inr rfl) rfl ⟨rfl, A, j2, rfl, cJ_run h e2 (Or.inr ⟨on1, ⟨c', by omega, rfl, fun i hi => c3 i (by omega)⟩, ?_, Or.inl rfl⟩)⟩
      intro s' k hs' hk
      show A (0 + 7 * s' + 1 + k) = -1 ∨ ∃ z, z < n ∧ A (0 + 7 * s' + 1 + k) = nI z ∧ σ 8 z = 1
      have hv := hV s' k hs' hk
      by_cases e : s' = s
      · subst e
        have := j2.2.2 k hk
        rw [show 0 + 7 * s' + 1 + k = 7 * s' + 1 + k by omega] at hv ⊢
        rw [this]
        by_cases z : k ∈ bl
        · rw [if_pos z]
          exact Or.inl rfl
        · rw [if_neg z]
          exact hv
      · rw [j2.2.1 (0 + 7 * s' + 1 + k) (by omega) (fun k' hk' => by omega)]
        exact hv
    · have q3 := qgeF q3 j bl.length
      obtain ⟨p1, p2⟩ := hb2 j q3
      generalize hp : (bl[j]'q3) = p at p1 p2
      iterate 6 (refine kX_one rfl ?_)
      refine kX_getN rfl rfl (kT_ev hr4 hk6) rfl ?_
      iterate 1 (refine kX_one rfl ?_)
      refine kX_ialdV rfl (kT_e1 hr4 hk6 (Or.inl rfl)) (by decide) (j) (by first | rfl | decide) (by omega) ((congrFun (eo A (28 + 35 * r + 5 * dn + 1) (by omega)) j).trans ((congrFun (congrArg σ (by omega : 28 + 35 * r + 5 * dn + 1 = 29 + 35 * r + 5 * dn)) j).trans p2)) ?_
      iterate 1 (refine kX_one rfl ?_)
      refine kX_top (y := nI (7 * s + 1 + p)) (ix7b s p) ?_
      iterate 1 (refine kX_one rfl ?_)
      refine kX_iastN rfl rfl (by decide) (7 * s + 1 + p) (by first | rfl | decide) (by omega) ?_
      iterate 2 (refine kX_one rfl ?_)
      have := ih (j + 1, upd A (7 * s + 1 + p) (-1)) ⟨q3, (pk_un (by omega)).trans j2.1, fun i i1 i2 => (pk_un (i2 p p1)).trans (j2.2.1 i i1 i2), fun k hk => by
        simp only
        rw [List.take_succ_eq_append_getElem q3, hp]
        by_cases e : k = p
        · subst e
          rw [if_pos (by simp)]
          exact pk_us
        · rw [pk_un (by omega), j2.2.2 k hk]
          by_cases z : k ∈ bl.take j
          · rw [if_pos z, if_pos (List.mem_append_left _ z)]
          · rw [if_neg z, if_neg (fun z2 => by
              rcases List.mem_append.mp z2 with z2 | z2
              · exact z z2
              · exact e (List.mem_singleton.mp z2))]⟩ (by simp only; omega)
      dsimp only at this
      rw [← nI_1] at this
      refine kX_to _ _ rfl rfl rfl ?_ this
      funext c; unfold  va_up; repeat' split
      all_goals first | rfl | omega | (subst_vars; rfl) | (funext j; unfold upd; repeat' split; all_goals first | rfl | omega | (subst_vars; rfl))
