/-! lists that lie in rows; the VARIABLES in a TERM -/
def lst (A : Nat → Int32) (l : List Nat) : Prop := ∀ i (h : i < l.length), A i = nI (l[i]'h)
theorem lst_nil (A : Nat → Int32) : lst A [] := fun i h => absurd h (Nat.not_lt_zero i)
theorem lst_push {A : Nat → Int32} {l : List Nat} (h : lst A l) (x : Nat) : lst (upd A l.length (nI x)) (l ++ [x]) := by
  intro i hi
  rw [List.length_append] at hi
  simp only [List.length_cons, List.length_nil] at hi
  by_cases e : i = l.length
  · subst e
    rw [pk_us]
    simp
  · have hl : i < l.length := by omega
    rw [pk_un e, h i hl, List.getElem_append_left hl]
theorem lst_pop {A : Nat → Int32} {l : List Nat} {x : Nat} (h : lst A (l ++ [x])) : A l.length = nI x ∧ lst A l := by
  constructor
  · have := h l.length (by simp)
    rw [this]
    simp
  · intro i hi
    have := h i (by rw [List.length_append]; simp; omega)
    rw [this, List.getElem_append_left hi]
/-- each one once, as it comes first -/
def ddl (acc l : List Nat) : List Nat := l.foldl (fun a x => if x ∈ a then a else a ++ [x]) acc
theorem ddl_app (acc l m : List Nat) : ddl acc (l ++ m) = ddl (ddl acc l) m := List.foldl_append
theorem ddl_cons (acc : List Nat) (x : Nat) (l : List Nat) : ddl acc (x :: l) = ddl (if x ∈ acc then acc else acc ++ [x]) l := rfl
/-- the VARIABLES in a TERM, from left to right -/
def tvs (K F S : Nat → Int32) (t : Nat) : List Nat := tA (fun t => if K t = nI 3 then [t] else []) (fun _ a b => a ++ b.getD []) K F S t
section TVS
variable {V AG : Nat → Prop} {K F S : Nat → Int32}
theorem tsz_pos (hV : ∀ t, V t → t < 100000 ∧ tOk V AG K F S t) {t : Nat} (ht : V t) : 1 ≤ tsz K F S t := by
  unfold tsz
  rcases (hV t ht).2 with ⟨k, h3, hk, -, -⟩ | ⟨k, x, y, h3, hk, hx, hy, h4, h5, h6, h7⟩ | ⟨k, x, h3, hk, hx, hy, h4, h6⟩
  · rw [tA_0 hk h3]
    omega
  · rw [tA_2 hV hk hx hy (by omega) (by omega) h4 h5 h6 h7]
    omega
  · rw [tA_1 hV hk hx hy (by omega) (by omega) h4 h6]
    omega
/-- GROUND: no VARIABLE in it -/
theorem tgd_tvs (hV : ∀ t, V t → t < 100000 ∧ tOk V AG K F S t) : ∀ t, V t → (tgd K F S t = true ↔ tvs K F S t = []) := by
  intro t
  induction t using Nat.strongRecOn with
  | _ t ih =>
    intro ht
    unfold tgd tvs
    rcases (hV t ht).2 with ⟨k, h3, hk, -, -⟩ | ⟨k, x, y, h3, hk, hx, hy, h4, h5, h6, h7⟩ | ⟨k, x, h3, hk, hx, hy, h4, h6⟩
    · rw [tA_0 hk h3, tA_0 hk h3]
      by_cases e : K t = nI 3
      · simp [e]
      · simp [e]
    · rw [tA_2 hV hk hx hy (by omega) (by omega) h4 h5 h6 h7, tA_2 hV hk hx hy (by omega) (by omega) h4 h5 h6 h7]
      have i1 := ih x h4 h6
      have i2 := ih y h5 h7
      unfold tgd tvs at i1 i2
      simp only [Option.getD_some, Bool.and_eq_true, List.append_eq_nil_iff, i1, i2]
    · rw [tA_1 hV hk hx hy (by omega) (by omega) h4 h6, tA_1 hV hk hx hy (by omega) (by omega) h4 h6]
      have i1 := ih x h4 h6
      unfold tgd tvs at i1
      simp only [Option.getD_none, Bool.and_true, List.append_nil, i1]
/-- what is in the row is a VARIABLE of V -/
theorem tvs_mem (hV : ∀ t, V t → t < 100000 ∧ tOk V AG K F S t) : ∀ t, V t → ∀ v ∈ tvs K F S t, V v ∧ K v = nI 3 ∧ v ≤ t := by
  intro t
  induction t using Nat.strongRecOn with
  | _ t ih =>
    intro ht v hv
    unfold tvs at hv
    rcases (hV t ht).2 with ⟨k, h3, hk, -, -⟩ | ⟨k, x, y, h3, hk, hx, hy, h4, h5, h6, h7⟩ | ⟨k, x, h3, hk, hx, hy, h4, h6⟩
    · rw [tA_0 hk h3] at hv
      split at hv
      · next e =>
        rw [List.mem_singleton] at hv
        subst hv
        exact ⟨ht, e, Nat.le_refl _⟩
      · cases hv
    · rw [tA_2 hV hk hx hy (by omega) (by omega) h4 h5 h6 h7] at hv
      rcases List.mem_append.mp hv with q | q
      · have := ih x h4 h6 v q
        exact ⟨this.1, this.2.1, by omega⟩
      · have := ih y h5 h7 v q
        exact ⟨this.1, this.2.1, by omega⟩
    · rw [tA_1 hV hk hx hy (by omega) (by omega) h4 h6] at hv
      rcases List.mem_append.mp hv with q | q
      · have := ih x h4 h6 v q
        exact ⟨this.1, this.2.1, by omega⟩
      · cases q
end TVS
/-- contents behind findVariables -/
def fvS (σ : kS) (W ST : Nat → Int32) (m : Int32) : kS := va_up (va_up (va_up σ 252 W) 251 ST) 232 (upd (σ 232) 22 m)
set_option maxRecDepth 100000 in
set_option maxHeartbeats 4000000 in
theorem mr_fv_in (L : Nat) (xs : Nat → Int32) (d : Nat) (σ : kS) (W ST : Nat → Int32) (acc : List Nat) (n t : Nat) (tv : Int32) (hl : lst ST acc) (ha : acc.length ≤ 24) (ht : t < 1000) (h1000 : ∀ x ∈ acc, x < 1000) (Q : Option Value → kS → Prop)
    (he : kX kT L xs (d + 1) 164 82 [(4, .int (isB (t ∈ acc))), (0, .ref 232), (1, .int tv), (2, .int (nI n)), (3, .int (nI t))] [] (fvS σ W ST (nI acc.length)) Q) :
    ∀ k : Nat, k ≤ acc.length → kX kT L xs (d + 1) 164 44 [(5, .int (nI k)), (4, .int (isB (∃ i, i < k ∧ acc[i]? = some t))), (3, .int (nI t)), (2, .int (nI n)), (0, .ref 232), (1, .int tv)] [] (fvS σ W ST (nI acc.length)) Q := by
  refine kX_while (fun k : Nat => [(5, .int (nI k)), (4, .int (isB (∃ i, i < k ∧ acc[i]? = some t))), (3, .int (nI t)), (2, .int (nI n)), (0, .ref 232), (1, .int tv)]) (fun _ => fvS σ W ST (nI acc.length)) _ (fun k => acc.length - k) ?_
  intro k hk ih
  iterate 4 (refine kX_one rfl ?_)
  repeat refine kX_one rfl ?_
  refine kX_if (fun q => ?_) (fun q => ?_)
  · have q := qge q k acc.length
    have e : isB (∃ i, i < k ∧ acc[i]? = some t) = isB (t ∈ acc) := by
      have : (∃ i, i < k ∧ acc[i]? = some t) ↔ t ∈ acc := by
        rw [List.mem_iff_getElem?]
        exact ⟨fun ⟨i, _, h⟩ => ⟨i, h⟩, fun ⟨i, h⟩ => ⟨i, by have := (List.getElem?_eq_some_iff.mp h).1; omega, h⟩⟩
      rw [propext this]
    rw [e]
    refine kX_lv ([(4, .int (isB (t ∈ acc))), (0, .ref 232), (1, .int tv), (2, .int (nI n)), (3, .int (nI t))]) rfl rfl rfl ?_
    exact he
  · have q := qgeF q k acc.length
    have hgo : ∀ v : Int32, v = isB (∃ i, i < k + 1 ∧ acc[i]? = some t) → kX kT L xs (d + 1) 164 74 [(5, .int (nI k)), (4, .int (isB (∃ i, i < k ∧ acc[i]? = some t))), (3, .int (nI t)), (2, .int (nI n)), (0, .ref 232), (1, .int tv)] [.int v] (fvS σ W ST (nI acc.length)) Q := by
      intro v hv
      subst hv
      iterate 3 (refine kX_one rfl ?_)
      have := ih (k + 1) q (by omega)
      rw [← nI_1] at this
      exact this
    iterate 1 (refine kX_one rfl ?_)
    repeat refine kX_one rfl ?_
    refine kX_if (fun q2 => ?_) (fun q2 => ?_)
    · have q2 := isB_ne.mp (qne q2)
      obtain ⟨i, hi, hi2⟩ := q2
      iterate 2 (refine kX_one rfl ?_)
      exact hgo _ (isB_T ⟨i, by omega, hi2⟩).symm
    · have q2 : ¬ ∃ i, i < k ∧ acc[i]? = some t := fun h => isB_ne.mpr h (qneF q2)
      repeat refine kX_one rfl ?_
      refine kX_ialdN rfl rfl (by decide) (k) (by first | rfl | decide) (by omega) ?_
      iterate 1 (refine kX_one rfl ?_)
      have hk2 : ST k = nI acc[k] := hl k q
      have hlt := h1000 acc[k] (List.getElem_mem q)
      repeat refine kX_one rfl ?_
      refine kX_if (fun q3 => ?_) (fun q3 => ?_)
      · have q3 : ST k ≠ nI t := qne q3
        iterate 1 (refine kX_one rfl ?_)
        refine hgo _ (isB_F ?_).symm
        rintro ⟨i, hi, hi2⟩
        by_cases e : i = k
        · subst e
          rw [List.getElem?_eq_getElem q] at hi2
          rw [hk2, Option.some.inj hi2] at q3
          exact q3 rfl
        · exact q2 ⟨i, by omega, hi2⟩
      · have q3 : ST k = nI t := qneF q3
        iterate 2 (refine kX_one rfl ?_)
        refine hgo _ (isB_T ⟨k, by omega, ?_⟩).symm
        rw [List.getElem?_eq_getElem q]
        exact congrArg some (nI_inj (hk2.symm.trans q3))
theorem snoc_cases (l : List Nat) : l = [] ∨ ∃ l0 x, l = l0 ++ [x] := by
  induction l with
  | nil => exact Or.inl rfl
  | cons a l ih =>
    rcases ih with rfl | ⟨l0, x, rfl⟩
    · exact Or.inr ⟨[], a, rfl⟩
    · exact Or.inr ⟨a :: l0, x, rfl⟩
theorem sum_len {f : Nat → Nat} : ∀ (l : List Nat), (∀ x ∈ l, 1 ≤ f x) → l.length ≤ (l.map f).sum
  | [], _ => Nat.le_refl _
  | a :: l, h => by
    have h1 := h a List.mem_cons_self
    have h2 := sum_len l (fun x hx => h x (List.mem_cons_of_mem _ hx))
    simp only [List.length_cons, List.map_cons, List.sum_cons]
    omega
set_option maxRecDepth 100000 in
set_option maxHeartbeats 4000000 in
theorem mr_findVariables (L : Nat) (xs : Nat → Int32) (d : Nat) (σ : kS) (n b t : Nat) (h : mTb σ n b) (ht : t < n) : kXM kT L xs (d + 1) 164 [.ref 232, .int (nI t)] σ (fun r σ' => r = none ∧ ∃ W ST, σ' = fvS σ W ST (nI (ddl [] (tvs (σ 233) (σ 234) (σ 235) t)).length) ∧ lst ST (ddl [] (tvs (σ 233) (σ 234) (σ 235) t)) ∧ (ddl [] (tvs (σ 233) (σ 234) (σ 235) t)).length ≤ 24) := by
  obtain ⟨hn, hb1, hb2, -, -, hW, hG, -, -, hS⟩ := h
  have hV := hW.1
  have h1000 : ∀ x, mv n b x → x < 1000 := fun x q => by unfold mv at q; omega
  unfold kXM
  generalize hz : tsz (σ 233) (σ 234) (σ 235) = sz at hS
  have hpos : ∀ x, mv n b x → 1 ≤ sz x := fun x q => by rw [← hz]; exact tsz_pos hV q
  iterate 9 (refine kX_one rfl ?_)
  refine kX_iastN rfl rfl (by decide) (0) (by first | rfl | decide) (by decide) ?_
  have loop := kX_while (T := kT) (L := L) (xs := xs) (d := d + 1) (mi := 164) (pc := 14) (Q := fun r σ' => r = none ∧ ∃ W ST, σ' = fvS σ W ST (nI (ddl [] (tvs (σ 233) (σ 234) (σ 235) t)).length) ∧ lst ST (ddl [] (tvs (σ 233) (σ 234) (σ 235) t)) ∧ (ddl [] (tvs (σ 233) (σ 234) (σ 235) t)).length ≤ 24)
    (fun q : List Nat × List Nat × (Nat → Int32) × (Nat → Int32) => [(2, .int (nI q.1.length)), (0, .ref 232), (1, .int (nI t))])
    (fun q => fvS σ q.2.2.1 q.2.2.2 (nI q.2.1.length))
    (fun q => lst q.2.2.1 q.1 ∧ lst q.2.2.2 q.2.1 ∧ (∀ x ∈ q.1, mv n b x) ∧ q.2.1.length + (q.1.map sz).sum ≤ 24 ∧ ddl q.2.1 ((q.1.reverse.map (tvs (σ 233) (σ 234) (σ 235))).flatten) = ddl [] (tvs (σ 233) (σ 234) (σ 235) t) ∧ ∀ x ∈ q.2.1, mv n b x)
    (fun q => (q.1.map sz).sum) ?_ ([t], [], upd (σ 252) 0 (nI t), σ 251) ⟨lst_push (lst_nil _) t, lst_nil _, fun x hx => by rw [List.mem_singleton] at hx; subst hx; exact Or.inl ht, by simp; exact hS t ht, by simp, fun x hx => by cases hx⟩
  · refine kX_to _ _ rfl rfl rfl ?_ loop
    funext c; unfold fvS va_up; repeat' split
    all_goals first | rfl | omega | (subst_vars; rfl) | (funext j; unfold upd; repeat' split; all_goals first | rfl | omega | (subst_vars; rfl))
  · rintro ⟨l, acc, W, ST⟩ ⟨i1, i2, i3, i4, i5, i6⟩ ih
    dsimp only at i1 i2 i3 i4 i5 i6 ih ⊢
    rcases snoc_cases l with rfl | ⟨l0, x, rfl⟩
    · iterate 2 (refine kX_one rfl ?_)
      refine kX_ret (i := .return_) (len := 1) rfl (Or.inr rfl) rfl ⟨rfl, W, ST, ?_, ?_, ?_⟩
      · have : acc = ddl [] (tvs (σ 233) (σ 234) (σ 235) t) := i5
        rw [← this]
      · have : acc = ddl [] (tvs (σ 233) (σ 234) (σ 235) t) := i5
        rw [← this]
        exact i2
      · have : acc = ddl [] (tvs (σ 233) (σ 234) (σ 235) t) := i5
        rw [← this]
        omega
    · have hx : mv n b x := i3 x (by simp)
      have hx1 := h1000 x hx
      have hxp := hpos x hx
      obtain ⟨w1, w2⟩ := lst_pop i1
      have hs : ((l0 ++ [x]).map sz).sum = (l0.map sz).sum + sz x := by simp
      rw [hs] at i4 ih
      have hl0 := sum_len l0 (fun z hz => hpos z (i3 z (by simp [hz])))
      have i3' : ∀ z ∈ l0, mv n b z := fun z hz => i3 z (by simp [hz])
      have e5 : ((l0 ++ [x]).reverse.map (tvs (σ 233) (σ 234) (σ 235))).flatten = tvs (σ 233) (σ 234) (σ 235) x ++ (l0.reverse.map (tvs (σ 233) (σ 234) (σ 235))).flatten := by simp
      rw [e5, ddl_app] at i5
      have elen : nI (l0 ++ [x]).length = nI (l0.length + 1) := by simp
      rw [elen]
      iterate 1 (refine kX_one rfl ?_)
      repeat refine kX_one rfl ?_
      refine kX_ifF (decide_eq_false (nI_nle (by omega) (by omega))) ?_
      iterate 4 (refine kX_one rfl ?_)
      refine kX_ialdN rfl rfl (by decide) l0.length (pk_m1 _) (by omega) ?_
      rw [show fvS σ W ST (nI acc.length) 252 l0.length = nI x from w1, show nI (l0.length + 1) + Int32.ofInt (-1) = nI l0.length from pk_m1 _]
      iterate 4 (refine kX_one rfl ?_)
      refine kX_ialdN rfl rfl (by decide) (x) (by first | rfl | decide) (hx1) ?_
      iterate 1 (refine kX_one rfl ?_)
      have hback : ∀ (τ : kS) (l' acc' : List Nat) (W' ST' : Nat → Int32), τ = fvS σ W' ST' (nI acc'.length) → lst W' l' → lst ST' acc' → (∀ x ∈ l', mv n b x) → acc'.length + (l'.map sz).sum ≤ 24 → (l'.map sz).sum < (l0.map sz).sum + sz x → ddl acc' ((l'.reverse.map (tvs (σ 233) (σ 234) (σ 235))).flatten) = ddl [] (tvs (σ 233) (σ 234) (σ 235) t) → (∀ x ∈ acc', mv n b x) → ∀ lv, nk lv = true → ([(2, Value.int (nI l'.length)), (0, .ref 232), (1, .int (nI t))] : jL).map (fun q => jl lv q.1) = ([(2, Value.int (nI l'.length)), (0, .ref 232), (1, .int (nI t))] : jL).map (fun q => some q.2) → kX kT L xs (d + 1) 164 158 lv [] τ (fun r σ' => r = none ∧ ∃ W ST, σ' = fvS σ W ST (nI (ddl [] (tvs (σ 233) (σ 234) (σ 235) t)).length) ∧ lst ST (ddl [] (tvs (σ 233) (σ 234) (σ 235) t)) ∧ (ddl [] (tvs (σ 233) (σ 234) (σ 235) t)).length ≤ 24) := by
        intro τ l' acc' W' ST' e j1 j2 j3 j4 j5 j6 j7 lv hk hlv
        refine kX_lv _ hk rfl hlv ?_
        rw [e]
        iterate 1 (refine kX_one rfl ?_)
        exact ih (l', acc', W', ST') ⟨j1, j2, j3, j4, j6, j7⟩ j5
      repeat refine kX_one rfl ?_
      refine kX_if (fun q => ?_) (fun q => ?_)
      · have q : σ 233 x ≠ nI 3 := qne q
        iterate 3 (refine kX_one rfl ?_)
        refine kX_baldN rfl rfl (by decide) (x) (by first | rfl | decide) (hx1) ?_
        rw [show fvS σ W ST (nI acc.length) 237 x = bI (tgd (σ 233) (σ 234) (σ 235) x) from hG x hx]
        repeat refine kX_one rfl ?_
        refine kX_if (fun q2 => ?_) (fun q2 => ?_)
        · have q2 := (bI_ne _).mp (qne q2)
          rw [(tgd_tvs hV x hx).mp q2] at i5
          exact hback _ l0 acc W ST rfl w2 i2 i3' (by omega) (by omega) i5 i6 _ rfl rfl
        · have q2 := (bI_eq _).mp (qneF q2)
          rcases (hV x hx).2 with ⟨k, h3, hk, -, -⟩ | ⟨k, y, z, h3, hk, hy, hz2, h4, h5, h6, h7⟩ | ⟨k, y, h3, hk, hy, hz2, h4, h6⟩
          · exfalso
            unfold tgd at q2
            rw [tA_0 hk h3] at q2
            exact of_decide_eq_false q2 q
          · have e6 : tvs (σ 233) (σ 234) (σ 235) x = tvs (σ 233) (σ 234) (σ 235) y ++ tvs (σ 233) (σ 234) (σ 235) z := by
              unfold tvs
              rw [tA_2 hV hk hy hz2 (by omega) (by omega) h4 h5 h6 h7]
              rfl
            have e7 : sz x = 1 + sz y + sz z := by
              rw [← hz]
              unfold tsz
              rw [tA_2 hV hk hy hz2 (by omega) (by omega) h4 h5 h6 h7]
              rfl
            iterate 3 (refine kX_one rfl ?_)
            refine kX_ialdN rfl rfl (by decide) (x) (by first | rfl | decide) (hx1) ?_
            rw [show fvS σ W ST (nI acc.length) 235 x = nI z from hz2]
            repeat refine kX_one rfl ?_
            refine kX_ifF (decide_eq_false (nI_pos (by have := h1000 z h7; omega))) ?_
            iterate 6 (refine kX_one rfl ?_)
            refine kX_ialdN rfl rfl (by decide) (x) (by first | rfl | decide) (hx1) ?_
            rw [show fvS σ W ST (nI acc.length) 235 x = nI z from hz2]
            refine kX_iastN rfl rfl (by decide) (l0.length) (by first | rfl | decide) (by omega) ?_
            iterate 7 (refine kX_one rfl ?_)
            refine kX_ialdN rfl rfl (by decide) (x) (by first | rfl | decide) (hx1) ?_
            rw [show (va_up (fvS σ W ST (nI acc.length)) 252 (upd (fvS σ W ST (nI acc.length) 252) l0.length (nI z))) 234 x = nI y from hy]
            refine kX_iastN rfl rfl (by decide) (l0.length + 1) (nI_1 _) (by omega) ?_
            iterate 1 (refine kX_one rfl ?_)
            refine hback _ (l0 ++ [z] ++ [y]) acc (upd (upd W l0.length (nI z)) (l0 ++ [z]).length (nI y)) ST ?_ (lst_push (lst_push w2 z) y) i2 ?_ ?_ ?_ ?_ i6 _ rfl ?_
            · rw [show (l0 ++ [z]).length = l0.length + 1 by simp]
              funext c; unfold fvS va_up; repeat' split
              all_goals first | rfl | omega | (subst_vars; rfl) | (funext j; unfold upd; repeat' split; all_goals first | rfl | omega | (subst_vars; rfl))
            · intro u hu
              simp only [List.mem_append, List.mem_singleton] at hu
              rcases hu with (hu | rfl) | rfl
              · exact i3' u hu
              · exact h7
              · exact h6
            · simp only [List.map_append, List.sum_append, List.map_cons, List.map_nil, List.sum_cons, List.sum_nil]
              omega
            · simp only [List.map_append, List.sum_append, List.map_cons, List.map_nil, List.sum_cons, List.sum_nil]
              omega
            · rw [e6, ddl_app] at i5
              rw [show ((l0 ++ [z] ++ [y]).reverse.map (tvs (σ 233) (σ 234) (σ 235))).flatten = tvs (σ 233) (σ 234) (σ 235) y ++ (tvs (σ 233) (σ 234) (σ 235) z ++ (l0.reverse.map (tvs (σ 233) (σ 234) (σ 235))).flatten) by simp, ddl_app, ddl_app]
              exact i5
            · rw [show nI (l0 ++ [z] ++ [y]).length = nI l0.length + 1 + 1 by rw [nI_1, nI_1]; simp]
              rfl
          · have e6 : tvs (σ 233) (σ 234) (σ 235) x = tvs (σ 233) (σ 234) (σ 235) y := by
              unfold tvs
              rw [tA_1 hV hk hy hz2 (by omega) (by omega) h4 h6]
              exact List.append_nil _
            have e7 : sz x = 1 + sz y := by
              rw [← hz]
              unfold tsz
              rw [tA_1 hV hk hy hz2 (by omega) (by omega) h4 h6]
              rfl
            iterate 3 (refine kX_one rfl ?_)
            refine kX_ialdN rfl rfl (by decide) (x) (by first | rfl | decide) (hx1) ?_
            rw [show fvS σ W ST (nI acc.length) 235 x = -1 from hz2]
            iterate 7 (refine kX_one rfl ?_)
            refine kX_ialdN rfl rfl (by decide) (x) (by first | rfl | decide) (hx1) ?_
            rw [show fvS σ W ST (nI acc.length) 234 x = nI y from hy]
            refine kX_iastN rfl rfl (by decide) (l0.length) (by first | rfl | decide) (by omega) ?_
            iterate 1 (refine kX_one rfl ?_)
            refine hback _ (l0 ++ [y]) acc (upd W l0.length (nI y)) ST ?_ (lst_push w2 y) i2 ?_ ?_ ?_ ?_ i6 _ rfl ?_
            · funext c; unfold fvS va_up; repeat' split
              all_goals first | rfl | omega | (subst_vars; rfl) | (funext j; unfold upd; repeat' split; all_goals first | rfl | omega | (subst_vars; rfl))
            · intro u hu
              simp only [List.mem_append, List.mem_singleton] at hu
              rcases hu with hu | rfl
              · exact i3' u hu
              · exact h6
            · simp only [List.map_append, List.sum_append, List.map_cons, List.map_nil, List.sum_cons, List.sum_nil]
              omega
            · simp only [List.map_append, List.sum_append, List.map_cons, List.map_nil, List.sum_cons, List.sum_nil]
              omega
            · rw [e6] at i5
              rw [show ((l0 ++ [y]).reverse.map (tvs (σ 233) (σ 234) (σ 235))).flatten = tvs (σ 233) (σ 234) (σ 235) y ++ (l0.reverse.map (tvs (σ 233) (σ 234) (σ 235))).flatten by simp, ddl_app]
              exact i5
            · rw [show nI (l0 ++ [y]).length = nI l0.length + 1 by rw [nI_1]; simp]
              rfl
      · have q : σ 233 x = nI 3 := qneF q
        have e6 : tvs (σ 233) (σ 234) (σ 235) x = [x] := by
          unfold tvs
          rw [tA_0 q (by omega), if_pos q]
        rw [e6, ddl_cons] at i5
        iterate 4 (refine kX_one rfl ?_)
        have hin := mr_fv_in L xs d σ W ST acc l0.length x (nI t) i2 (by omega) hx1 (fun z hz => h1000 z (i6 z hz)) (fun r σ' => r = none ∧ ∃ W ST, σ' = fvS σ W ST (nI (ddl [] (tvs (σ 233) (σ 234) (σ 235) t)).length) ∧ lst ST (ddl [] (tvs (σ 233) (σ 234) (σ 235) t)) ∧ (ddl [] (tvs (σ 233) (σ 234) (σ 235) t)).length ≤ 24) ?_ 0 (Nat.zero_le _)
        · rw [isB_F (fun ⟨i, hi, _⟩ => absurd hi (Nat.not_lt_zero i)), nI_0] at hin
          exact hin
        · iterate 1 (refine kX_one rfl ?_)
          repeat refine kX_one rfl ?_
          refine kX_if (fun q2 => ?_) (fun q2 => ?_)
          · have q2 := isB_ne.mp (qne q2)
            rw [if_pos q2] at i5
            iterate 1 (refine kX_one rfl ?_)
            exact hback _ l0 acc W ST rfl w2 i2 i3' (by omega) (by omega) i5 i6 _ rfl rfl
          · have q2 : x ∉ acc := fun hh => isB_ne.mpr hh (qneF q2)
            rw [if_neg q2] at i5
            iterate 5 (refine kX_one rfl ?_)
            refine kX_iastN rfl rfl (by decide) (acc.length) (by first | rfl | decide) (by omega) ?_
            iterate 7 (refine kX_one rfl ?_)
            refine hback _ l0 (acc ++ [x]) W (upd ST acc.length (nI x)) ?_ w2 (lst_push i2 x) i3' (by simp; omega) (by omega) i5 (fun u hu => ?_) _ rfl rfl
            · rw [show (acc ++ [x]).length = acc.length + 1 by simp, ← nI_1]
              funext c; unfold fvS va_up; repeat' split
              all_goals first | rfl | omega | (subst_vars; rfl) | (funext j; unfold upd; repeat' split; all_goals first | rfl | omega | (subst_vars; rfl))
            · rcases List.mem_append.mp hu with hu | hu
              · exact i6 u hu
              · rw [List.mem_singleton] at hu
                subst hu
                exact hx
