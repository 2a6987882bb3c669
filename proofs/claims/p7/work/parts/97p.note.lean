/-! the reference: noteAttack -/
/-- the way from the STATE i back to the first: movers and STATES -/
def pthR (σ : kS) : Nat → List (Nat × Nat) → Prop
  | i, [] => i = 0
  | i, (m, i') :: l => i' = i ∧ 0 < i ∧ σ 287 i = nI m ∧ ∃ j, j < i ∧ σ 286 i = nI j ∧ pthR σ j l
def pthB (σ : kS) (S N i : Nat) (l : List (Nat × Nat)) : Prop := l.length ≤ i ∧ (∀ s, s < S → stD σ i s = nI ((l.map Prod.fst).count s)) ∧ ∀ l1 q l2, l = l1 ++ q :: l2 → q.1 < S ∧ q.2 < N ∧ stD σ q.2 q.1 = nI ((l2.map Prod.fst).count q.1 + 1) ∧ ∀ k, k < 6 → stV σ q.2 (6 * q.1 + k) ≠ -6 → stV σ i (6 * q.1 + k) = stV σ q.2 (6 * q.1 + k)
theorem pth_ex {σ : kS} {n R S N : Nat} (hS : mSs σ n R S N) : ∀ i, i < N → ∃ l, pthR σ i l ∧ pthB σ S N i l := by
  intro i
  induction i using Nat.strongRecOn with
  | _ i ih =>
    intro hi
    obtain ⟨-, g2, g3⟩ := hS.2.2 i hi
    rcases Nat.eq_zero_or_pos i with rfl | hp
    · refine ⟨[], rfl, Nat.zero_le _, fun s hs => g2 rfl s hs, fun l1 q l2 e => ?_⟩
      cases l1 <;> cases e
    · obtain ⟨j, m, j1, j2, j3, m1, m2⟩ := g3 hp
      obtain ⟨l, h1, h0, h2, h3⟩ := ih j j1 (by omega)
      have hD : ∀ s, s < S → stD σ i s = nI ((((m, i) :: l).map Prod.fst).count s) := fun s hs => by
        rw [List.map_cons, List.count_cons]
        by_cases e : s = m
        · rw [((m2 s hs).2 e).1, h2 s hs, nI_1]
          simp [e]
        · rw [((m2 s hs).1 e).1, h2 s hs]
          have : ¬ ((m == s) = true) := by
            rw [beq_iff_eq]
            exact fun q => e q.symm
          simp [this]
      refine ⟨(m, i) :: l, ⟨rfl, hp, j3, j, j1, j2, h1⟩, (by rw [List.length_cons]; omega), hD, fun l1 q l2 e => ?_⟩
      cases l1 with
      | nil =>
        rw [List.nil_append] at e
        obtain ⟨rfl, rfl⟩ := List.cons.inj e
        refine ⟨m1, hi, ?_, fun _ _ _ => rfl⟩
        have := hD m m1
        rw [List.map_cons, List.count_cons_self] at this
        exact this
      | cons a l1 =>
        rw [List.cons_append] at e
        obtain ⟨rfl, e2⟩ := List.cons.inj e
        obtain ⟨q1, q2, q3, q4⟩ := h3 l1 q l2 e2
        refine ⟨q1, q2, q3, fun k hk hne => ?_⟩
        have hj := q4 k hk hne
        by_cases e : q.1 = m
        · rw [((m2 q.1 q1).2 e).2 k hk (by rw [hj]; exact hne), hj]
        · rw [((m2 q.1 q1).1 e).2 k hk, hj]
theorem len_24 {l : List Nat} (h4 : ∀ s ∈ l, s < 4) (hc : ∀ s, l.count s ≤ 6) : l.length ≤ 24 := by
  have key : ∀ (l : List Nat), (∀ s ∈ l, s < 4) → l.length = l.count 0 + l.count 1 + l.count 2 + l.count 3 := by
    intro l
    induction l with
    | nil => intro _; rfl
    | cons a l ih =>
      intro hl
      have h1 := ih (fun s hs => hl s (List.mem_cons_of_mem _ hs))
      have ha := hl a List.mem_cons_self
      rw [List.length_cons, h1, List.count_cons, List.count_cons, List.count_cons, List.count_cons]
      obtain rfl | rfl | rfl | rfl : a = 0 ∨ a = 1 ∨ a = 2 ∨ a = 3 := by omega
      all_goals simp
      all_goals omega
  rw [key l h4]
  have := hc 0
  have := hc 1
  have := hc 2
  have := hc 3
  omega
def naS (σ : kS) (AS AT : Nat → Int32) (m : Int32) : kS := va_up (va_up (va_up σ 288 AS) 289 AT) 232 (upd (σ 232) 72 m)
theorem naS_Ak {σ : kS} {n b R S N : Nat} {l : List (Nat × Nat)} {AS AT : Nat → Int32} (h : mTb σ n b) (hR : mRo σ n R) (hS4 : S ≤ 4) (hS : mSs σ n R S N) (hN : 0 < N) (hP : pthB σ S N (N - 1) l) (h24 : l.length ≤ 24) (hA : ∀ p q, l.reverse[p]? = some q → AS p = nI q.1 ∧ AT p = nI q.2) : mAk (naS σ AS AT (nI l.length)) n R S := by
  have hR4 := hR.1
  have hN6 := hS.1
  obtain ⟨p1, p2, p3⟩ := hP
  have hcnt : ∀ s, (l.map Prod.fst).count s < 2147483648 := fun s => by
    have := List.count_le_length (a := s) (l := l.map Prod.fst)
    rw [List.length_map] at this
    omega
  have hev : ∀ r, r < R → fN (σ 247 r) ≤ 6 := fun r hr => by
    obtain ⟨-, e, e1, e2⟩ := hR.2.2.1 r hr
    rw [e2, fN_nI (by omega)]
    exact e1
  have hel : (l.reverse.map Prod.fst).length = l.length := by simp
  refine Or.inr ⟨l.reverse.map Prod.fst, fun s k => stV σ (N - 1) (6 * s + k), by omega, ?_, fun i hi => ?_, fun s hs => ?_, fun i hi => ?_⟩
  · show nI l.length = _
    rw [hel]
  · have hi' : i < l.reverse.length := by simpa using hi
    have := (hA i l.reverse[i] (List.getElem?_eq_getElem hi')).1
    rw [List.getElem_map]
    exact this
  · have hs' : s ∈ l.map Prod.fst := by
      rw [List.map_reverse] at hs
      exact List.mem_reverse.mp hs
    obtain ⟨q, hq, e⟩ := List.mem_map.mp hs'
    obtain ⟨l1, l2, e2⟩ := List.append_of_mem hq
    have hsS : s < S := by
      rw [← e]
      exact (p3 l1 q l2 e2).1
    obtain ⟨r, dn, a1, a2, a3, a4, a5⟩ := (hS.2.2 (N - 1) (by omega)).1 s hsS
    have he := hev r a1
    have hdn : (l.map Prod.fst).count s = dn := nI_inj ((p2 s hsS).symm.trans a3) (hcnt s)
    have hcr : (l.reverse.map Prod.fst).count s = dn := by
      rw [List.map_reverse, List.count_reverse, hdn]
    have hfr : fN (σ 255 s) = r := by rw [a2]; exact fN_nI (by omega)
    refine ⟨hsS, ?_, fun k hk hb => ?_⟩
    · show (l.reverse.map Prod.fst).count s ≤ fN (σ 247 (fN (σ 255 s)))
      rw [hcr, hfr]
      exact a4
    · have hb : bdv σ (fN (σ 255 s)) ((l.reverse.map Prod.fst).count s) k := hb
      rw [hcr, hfr] at hb
      have := (a5 k hk).1 hb
      show mVz σ n (fN (σ 255 s)) k _ ∧ (σ 246 (6 * fN (σ 255 s) + k) ≠ nI 2 → _)
      rw [hfr]
      exact this
  · have hi' : i < l.reverse.length := by simpa using hi
    obtain ⟨q, hq⟩ : ∃ q, l.reverse[i] = q := ⟨_, rfl⟩
    have hA2 := (hA i q (by rw [List.getElem?_eq_getElem hi', hq])).2
    have hsplit : l.reverse = l.reverse.take i ++ q :: l.reverse.drop (i + 1) := by
      rw [← hq, ← List.drop_eq_getElem_cons hi', List.take_append_drop]
    have hl : l = (l.reverse.drop (i + 1)).reverse ++ q :: (l.reverse.take i).reverse := by
      have := congrArg List.reverse hsplit
      rw [List.reverse_reverse, List.reverse_append, List.reverse_cons, List.append_assoc] at this
      exact this
    obtain ⟨q1, q2, q3, q4⟩ := p3 _ q _ hl
    have hasi : (l.reverse.map Prod.fst)[i] = q.1 := by rw [List.getElem_map, hq]
    have htk : ((l.reverse.map Prod.fst).take i).count q.1 = (((l.reverse.take i).reverse).map Prod.fst).count q.1 := by
      rw [List.map_reverse (l := l.reverse.take i), List.count_reverse, List.map_take]
    obtain ⟨r, dn, a1, a2, a3, a4, a5⟩ := (hS.2.2 q.2 q2).1 q.1 q1
    have he := hev r a1
    have hle : ((l.reverse.map Prod.fst).take i).count q.1 ≤ 600 := by
      have := List.count_le_length (a := q.1) (l := (l.reverse.map Prod.fst).take i)
      rw [List.length_take] at this
      omega
    have hdn : ((l.reverse.map Prod.fst).take i).count q.1 + 1 = dn := by
      rw [← htk] at q3
      exact nI_inj (q3.symm.trans a3)
    have hfr : fN (σ 255 q.1) = r := by rw [a2]; exact fN_nI (by omega)
    refine ⟨q.2, by omega, hA2, fun k hk => ?_⟩
    rw [hasi]
    show σ 285 (24 * q.2 + 6 * q.1 + k) = cit (bdv σ (fN (σ 255 q.1)) (((l.reverse.map Prod.fst).take i).count q.1 + 1) k) (stV σ (N - 1) (6 * q.1 + k)) (-6)
    rw [hfr, hdn, show σ 285 (24 * q.2 + 6 * q.1 + k) = stV σ q.2 (6 * q.1 + k) by unfold stV; rw [show 24 * q.2 + (6 * q.1 + k) = 24 * q.2 + 6 * q.1 + k by omega]]
    by_cases hb : bdv σ r dn k
    · rw [cit_T hb, q4 k hk]
      exact (mVz_ne h ((a5 k hk).1 hb).1).1
    · rw [cit_F hb]
      exact (a5 k hk).2 hb
theorem pth_24 {σ : kS} {n R S N : Nat} {l : List (Nat × Nat)} (hR : mRo σ n R) (hS4 : S ≤ 4) (hS : mSs σ n R S N) (hN : 0 < N) (hP : pthB σ S N (N - 1) l) : l.length ≤ 24 := by
  have hN6 := hS.1
  obtain ⟨p1, p2, p3⟩ := hP
  have hm : ∀ s ∈ l.map Prod.fst, s < S := fun s hs => by
    obtain ⟨q, hq, rfl⟩ := List.mem_map.mp hs
    obtain ⟨l1, l2, e⟩ := List.append_of_mem hq
    exact (p3 l1 q l2 e).1
  have := len_24 (l := l.map Prod.fst) (fun s hs => by have := hm s hs; omega) (fun s => by
    by_cases hs : s < S
    · obtain ⟨r, dn, a1, a2, a3, a4, -⟩ := (hS.2.2 (N - 1) (by omega)).1 s hs
      obtain ⟨-, e, e1, e2⟩ := hR.2.2.1 r a1
      rw [e2, fN_nI (by omega)] at a4
      have hc := List.count_le_length (a := s) (l := l.map Prod.fst)
      rw [List.length_map] at hc
      have : (l.map Prod.fst).count s = dn := nI_inj ((p2 s hs).symm.trans a3)
      omega
    · have : (l.map Prod.fst).count s = 0 := List.count_eq_zero.mpr (fun q => hs (hm s q))
      omega)
  rw [List.length_map] at this
  exact this
set_option maxRecDepth 100000 in
set_option maxHeartbeats 4000000 in
theorem mr_noteAttack (L : Nat) (xs : Nat → Int32) (d : Nat) (σ : kS) (n b R S N : Nat) (h : mTb σ n b) (hR : mRo σ n R) (hS4 : S ≤ 4) (hS : mSs σ n R S N) (hN : 0 < N) : kXM kT L xs (d + 1) 219 [.ref 232] σ (fun r σ' => r = none ∧ ∃ AS AT x, σ' = naS σ AS AT x ∧ mAk σ' n R S) := by
  have hN6 := hS.1
  obtain ⟨l0, hp, hP⟩ := pth_ex hS (N - 1) (by omega)
  have h24 := pth_24 hR hS4 hS hN hP
  have hst : σ 232 69 = nI (N - 1 + 1) := by rw [hS.2.1, show N - 1 + 1 = N by omega]
  unfold kXM
  have loop2 : ∀ q : List (Nat × Nat) × Nat × (Nat → Int32) × (Nat → Int32), ((∃ l1, l0 = l1 ++ q.1) ∧ q.2.1 < 600 ∧ pthR σ q.2.1 q.1 ∧ ∀ p z, q.1.length ≤ p → l0.reverse[p]? = some z → q.2.2.1 p = nI z.1 ∧ q.2.2.2 p = nI z.2) → kX kT L xs (d + 1) 219 38 [(2, .int (nI q.2.1)), (1, .int (nI q.1.length)), (0, .ref 232)] [] (naS σ q.2.2.1 q.2.2.2 (nI l0.length)) (fun r σ' => r = none ∧ ∃ AS AT x, σ' = naS σ AS AT x ∧ mAk σ' n R S) := by
    refine kX_while (fun q : List (Nat × Nat) × Nat × (Nat → Int32) × (Nat → Int32) => [(2, .int (nI q.2.1)), (1, .int (nI q.1.length)), (0, .ref 232)]) (fun q => naS σ q.2.2.1 q.2.2.2 (nI l0.length)) _ (fun q => q.1.length) ?_
    rintro ⟨l, t, AS, AT⟩ ⟨⟨l1, i1⟩, i2, i3, i4⟩ ih
    dsimp only at i1 i2 i3 i4 ih ⊢
    rcases l with _ | ⟨⟨m, t'⟩, l⟩
    · have i3 : t = 0 := i3
      subst i3
      iterate 2 (refine kX_one rfl ?_)
      refine kX_ret (i := .return_) (len := 1) rfl (Or.inr rfl) rfl (⟨rfl, AS, AT, nI l0.length, rfl, naS_Ak h hR hS4 hS hN hP h24 (fun p z hz => i4 p z (Nat.zero_le _) hz)⟩)
    · obtain ⟨rfl, j0, j1, j, j2, j3, j4⟩ := i3
      have hll : l.length < 24 := by
        have := congrArg List.length i1
        simp at this
        omega
      have hat : l0.reverse[l.length]? = some (m, t') := by
        rw [i1, List.reverse_append, List.reverse_cons, List.append_assoc, List.getElem?_append_right (by simp)]
        simp
      iterate 1 (refine kX_one rfl ?_)
      repeat refine kX_one rfl ?_
      refine kX_ifF (decide_eq_false (nI_nle (by omega) (by omega))) ?_
      iterate 1 (refine kX_one rfl ?_)
      refine kX_lv [(2, .int (nI t')), (1, .int (nI l.length)), (0, .ref 232)] rfl rfl ?_ ?_
      · rw [show nI l.length = nI (l.length + 1) + Int32.ofInt (-1) from (pk_m1 _).symm]
        rfl
      iterate 6 (refine kX_one rfl ?_)
      refine kX_ialdV rfl rfl (by decide) (t') (by first | rfl | decide) (i2) (j1) ?_
      refine kX_iastN rfl rfl (by decide) (l.length) (by first | rfl | decide) (by omega) ?_
      iterate 4 (refine kX_one rfl ?_)
      refine kX_iastN rfl rfl (by decide) (l.length) (by first | rfl | decide) (by omega) ?_
      iterate 3 (refine kX_one rfl ?_)
      refine kX_ialdV rfl rfl (by decide) (t') (by first | rfl | decide) (i2) (j3) ?_
      iterate 2 (refine kX_one rfl ?_)
      have := ih (l, j, upd AS l.length (nI m), upd AT l.length (nI t')) ⟨⟨l1 ++ [(m, t')], by rw [i1]; simp⟩, by simp only; omega, j4, fun p z hpl hz => by
        simp only at hpl ⊢
        by_cases e : p = l.length
        · subst e
          rw [hat] at hz
          obtain rfl := Option.some.inj hz
          rw [pk_us, pk_us]
          exact ⟨rfl, rfl⟩
        · rw [pk_un e, pk_un e]
          exact i4 p z (by rw [List.length_cons]; omega) hz⟩ (by simp)
      dsimp only at this
      refine kX_to _ _ rfl rfl rfl ?_ this
      funext c; unfold naS va_up; repeat' split
      all_goals first | rfl | omega | (subst_vars; rfl) | (funext j; unfold upd; repeat' split; all_goals first | rfl | omega | (subst_vars; rfl))
  have loop1 : ∀ q : List (Nat × Nat) × Nat × Nat, (q.2.1 < 600 ∧ pthR σ q.2.1 q.1 ∧ q.2.2 + q.1.length = l0.length) → kX kT L xs (d + 1) 219 9 [(2, .int (nI q.2.1)), (1, .int (nI q.2.2)), (0, .ref 232)] [] σ (fun r σ' => r = none ∧ ∃ AS AT x, σ' = naS σ AS AT x ∧ mAk σ' n R S) := by
    refine kX_while (fun q : List (Nat × Nat) × Nat × Nat => [(2, .int (nI q.2.1)), (1, .int (nI q.2.2)), (0, .ref 232)]) (fun q => σ) _ (fun q => q.1.length) ?_
    rintro ⟨l, t, c⟩ ⟨i2, i3, i4⟩ ih
    dsimp only at i2 i3 i4 ih ⊢
    rcases l with _ | ⟨⟨m, t'⟩, l⟩
    · have i3 : t = 0 := i3
      subst i3
      have i4 : c = l0.length := i4
      subst i4
      iterate 7 (refine kX_one rfl ?_)
      refine kX_top (hst) ?_
      iterate 3 (refine kX_one rfl ?_)
      have := loop2 (l0, N - 1, σ 288, σ 289) ⟨⟨[], rfl⟩, by simp only; omega, hp, fun p z hpl hz => by
        have := (List.getElem?_eq_some_iff.mp hz).1
        simp at this hpl
        omega⟩
      dsimp only at this
      rw [← nI_pred] at this
      refine kX_to _ _ rfl rfl rfl ?_ this
      funext c; unfold naS va_up; repeat' split
      all_goals first | rfl | omega | (subst_vars; rfl) | (funext j; unfold upd; repeat' split; all_goals first | rfl | omega | (subst_vars; rfl))
    · obtain ⟨rfl, j0, j1, j, j2, j3, j4⟩ := i3
      iterate 1 (refine kX_one rfl ?_)
      repeat refine kX_one rfl ?_
      refine kX_ifF (decide_eq_false (nI_nle (by omega) (by omega))) ?_
      iterate 4 (refine kX_one rfl ?_)
      refine kX_ialdV rfl rfl (by decide) (t') (by first | rfl | decide) (i2) (j3) ?_
      iterate 2 (refine kX_one rfl ?_)
      have := ih (l, j, c + 1) ⟨by simp only; omega, j4, by
        simp only
        rw [List.length_cons] at i4
        omega⟩ (by simp)
      dsimp only at this
      rw [← nI_1] at this
      exact kX_lv _ rfl rfl rfl this
  iterate 4 (refine kX_one rfl ?_)
  refine kX_top (hst) ?_
  iterate 3 (refine kX_one rfl ?_)
  have := loop1 (l0, N - 1, 0) ⟨by simp only; omega, hp, by simp⟩
  dsimp only at this
  rw [← nI_pred] at this
  exact kX_lv _ rfl rfl rfl this
