section
/-! lists that lie in rows; the VARIABLES in a TERM -/
def lst (A : Nat → Int32) (l : List Nat) : Prop := ∀ i (h : i < l.length), A i = nI (l[i]'h)
theorem lst_nil (A : Nat → Int32) : lst A [] := fun i h => absurd h (Nat.not_lt_zero i)
theorem lst_push {A : Nat → Int32} {l : List Nat} (h : lst A l) (x : Nat) : lst (upd A l.length (nI x)) (l ++ [x]) := by
  intro i hi
  rw [List.length_append] at hi
  simp only [List.length_cons, List.length_nil] at hi
  by_cases e : i = l.length
  · subst e
    rw [pk_us]
    simp
  · have hl : i < l.length := by omega
    rw [pk_un e, h i hl, List.getElem_append_left hl]
theorem lst_pop {A : Nat → Int32} {l : List Nat} {x : Nat} (h : lst A (l ++ [x])) : A l.length = nI x ∧ lst A l := by
  constructor
  · have := h l.length (by simp)
    rw [this]
    simp
  · intro i hi
    have := h i (by rw [List.length_append]; simp; omega)
    rw [this, List.getElem_append_left hi]
/-- each one once, as it comes first -/
def ddl (acc l : List Nat) : List Nat := l.foldl (fun a x => if x ∈ a then a else a ++ [x]) acc
theorem ddl_app (acc l m : List Nat) : ddl acc (l ++ m) = ddl (ddl acc l) m := List.foldl_append
theorem ddl_cons (acc : List Nat) (x : Nat) (l : List Nat) : ddl acc (x :: l) = ddl (if x ∈ acc then acc else acc ++ [x]) l := rfl
/-- the VARIABLES in a TERM, from left to right -/
def tvs (K F S : Nat → Int32) (t : Nat) : List Nat := tA (fun t => if K t = nI 3 then [t] else []) (fun _ a b => a ++ b.getD []) K F S t
section TVS
variable {V AG : Nat → Prop} {K F S : Nat → Int32}
theorem tsz_pos (hV : ∀ t, V t → t < 100000 ∧ tOk V AG K F S t) {t : Nat} (ht : V t) : 1 ≤ tsz K F S t := by
  unfold tsz
  rcases (hV t ht).2 with ⟨k, h3, hk, -, -⟩ | ⟨k, x, y, h3, hk, hx, hy, h4, h5, h6, h7⟩ | ⟨k, x, h3, hk, hx, hy, h4, h6⟩
  · rw [tA_0 hk h3]
    omega
  · rw [tA_2 hV hk hx hy (by omega) (by omega) h4 h5 h6 h7]
    omega
  · rw [tA_1 hV hk hx hy (by omega) (by omega) h4 h6]
    omega
/-- GROUND: no VARIABLE in it -/
theorem tgd_tvs (hV : ∀ t, V t → t < 100000 ∧ tOk V AG K F S t) : ∀ t, V t → (tgd K F S t = true ↔ tvs K F S t = []) := by
  intro t
  induction t using Nat.strongRecOn with
  | _ t ih =>
    intro ht
    unfold tgd tvs
    rcases (hV t ht).2 with ⟨k, h3, hk, -, -⟩ | ⟨k, x, y, h3, hk, hx, hy, h4, h5, h6, h7⟩ | ⟨k, x, h3, hk, hx, hy, h4, h6⟩
    · rw [tA_0 hk h3, tA_0 hk h3]
      by_cases e : K t = nI 3
      · simp [e]
      · simp [e]
    · rw [tA_2 hV hk hx hy (by omega) (by omega) h4 h5 h6 h7, tA_2 hV hk hx hy (by omega) (by omega) h4 h5 h6 h7]
      have i1 := ih x h4 h6
      have i2 := ih y h5 h7
      unfold tgd tvs at i1 i2
      simp only [Option.getD_some, Bool.and_eq_true, List.append_eq_nil_iff, i1, i2]
    · rw [tA_1 hV hk hx hy (by omega) (by omega) h4 h6, tA_1 hV hk hx hy (by omega) (by omega) h4 h6]
      have i1 := ih x h4 h6
      unfold tgd tvs at i1
      simp only [Option.getD_none, Bool.and_true, List.append_nil, i1]
/-- what is in the row is a VARIABLE of V -/
theorem tvs_mem (hV : ∀ t, V t → t < 100000 ∧ tOk V AG K F S t) : ∀ t, V t → ∀ v ∈ tvs K F S t, V v ∧ K v = nI 3 ∧ v ≤ t := by
  intro t
  induction t using Nat.strongRecOn with
  | _ t ih =>
    intro ht v hv
    unfold tvs at hv
    rcases (hV t ht).2 with ⟨k, h3, hk, -, -⟩ | ⟨k, x, y, h3, hk, hx, hy, h4, h5, h6, h7⟩ | ⟨k, x, h3, hk, hx, hy, h4, h6⟩
    · rw [tA_0 hk h3] at hv
      split at hv
      · next e =>
        rw [List.mem_singleton] at hv
        subst hv
        exact ⟨ht, e, Nat.le_refl _⟩
      · cases hv
    · rw [tA_2 hV hk hx hy (by omega) (by omega) h4 h5 h6 h7] at hv
      rcases List.mem_append.mp hv with q | q
      · have := ih x h4 h6 v q
        exact ⟨this.1, this.2.1, by omega⟩
      · have := ih y h5 h7 v q
        exact ⟨this.1, this.2.1, by omega⟩
    · rw [tA_1 hV hk hx hy (by omega) (by omega) h4 h6] at hv
      rcases List.mem_append.mp hv with q | q
      · have := ih x h4 h6 v q
        exact ⟨this.1, this.2.1, by omega⟩
      · cases q
end TVS
/-- contents behind findVariables -/
def fvS (σ : kS) (W ST : Nat → Int32) (m : Int32) : kS := va_up (va_up (va_up σ 252 W) 251 ST) 232 (upd (σ 232) 22 m)
set_option maxRecDepth 100000 in
set_option maxHeartbeats 4000000 in
theorem mr_fv_in (L : Nat) (xs : Nat → Int32) (d : Nat) (σ : kS) (W ST : Nat → Int32) (acc : List Nat) (n t : Nat) (tv : Int32) (hl : lst ST acc) (ha : acc.length ≤ 24) (ht : t < 1000) (h1000 : ∀ x ∈ acc, x < 1000) (Q : Option Value → kS → Prop)
    (he : kX kT L xs (d + 1) 164 82 [(4, .int (isB (t ∈ acc))), (0, .ref 232), (1, .int tv), (2, .int (nI n)), (3, .int (nI t))] [] (fvS σ W ST (nI acc.length)) Q) :
    ∀ k : Nat, k ≤ acc.length → kX kT L xs (d + 1) 164 44 [(5, .int (nI k)), (4, .int (isB (∃ i, i < k ∧ acc[i]? = some t))), (3, .int (nI t)), (2, .int (nI n)), (0, .ref 232), (1, .int tv)] [] (fvS σ W ST (nI acc.length)) Q := by
  refine kX_while (fun k : Nat => [(5, .int (nI k)), (4, .int (isB (∃ i, i < k ∧ acc[i]? = some t))), (3, .int (nI t)), (2, .int (nI n)), (0, .ref 232), (1, .int tv)]) (fun _ => fvS σ W ST (nI acc.length)) _ (fun k => acc.length - k) ?_
  intro k hk ih
  iterate 4 (refine kX_one rfl ?_)
  repeat refine kX_one rfl ?_
  refine kX_if (fun q => ?_) (fun q => ?_)
  · have q := qge q k acc.length
    have e : isB (∃ i, i < k ∧ acc[i]? = some t) = isB (t ∈ acc) := by
      have : (∃ i, i < k ∧ acc[i]? = some t) ↔ t ∈ acc := by
        rw [List.mem_iff_getElem?]
        exact ⟨fun ⟨i, _, h⟩ => ⟨i, h⟩, fun ⟨i, h⟩ => ⟨i, by have := (List.getElem?_eq_some_iff.mp h).1; omega, h⟩⟩
      rw [propext this]
    rw [e]
    refine kX_lv ([(4, .int (isB (t ∈ acc))), (0, .ref 232), (1, .int tv), (2, .int (nI n)), (3, .int (nI t))]) rfl rfl rfl ?_
    exact he
  · have q := qgeF q k acc.length
    have hgo : ∀ v : Int32, v = isB (∃ i, i < k + 1 ∧ acc[i]? = some t) → kX kT L xs (d + 1) 164 74 [(5, .int (nI k)), (4, .int (isB (∃ i, i < k ∧ acc[i]? = some t))), (3, .int (nI t)), (2, .int (nI n)), (0, .ref 232), (1, .int tv)] [.int v] (fvS σ W ST (nI acc.length)) Q := by
      intro v hv
      subst hv
      iterate 3 (refine kX_one rfl ?_)
      have := ih (k + 1) q (by omega)
      rw [← nI_1] at this
      exact this
    iterate 1 (refine kX_one rfl ?_)
    repeat refine kX_one rfl ?_
    refine kX_if (fun q2 => ?_) (fun q2 => ?_)
    · have q2 := isB_ne.mp (qne q2)
      obtain ⟨i, hi, hi2⟩ := q2
      iterate 2 (refine kX_one rfl ?_)
      exact hgo _ (isB_T ⟨i, by omega, hi2⟩).symm
    · have q2 : ¬ ∃ i, i < k ∧ acc[i]? = some t := fun h => isB_ne.mpr h (qneF q2)
      repeat refine kX_one rfl ?_
      refine kX_ialdN rfl rfl (by decide) (k) (by first | rfl | decide) (by omega) ?_
      iterate 1 (refine kX_one rfl ?_)
      have hk2 : ST k = nI acc[k] := hl k q
      have hlt := h1000 acc[k] (List.getElem_mem q)
      repeat refine kX_one rfl ?_
      refine kX_if (fun q3 => ?_) (fun q3 => ?_)
      · have q3 : ST k ≠ nI t := qne q3
        iterate 1 (refine kX_one rfl ?_)
        refine hgo _ (isB_F ?_).symm
        rintro ⟨i, hi, hi2⟩
        by_cases e : i = k
        · subst e
          rw [List.getElem?_eq_getElem q] at hi2
          rw [hk2, Option.some.inj hi2] at q3
          exact q3 rfl
        · exact q2 ⟨i, by omega, hi2⟩
      · have q3 : ST k = nI t := qneF q3
        iterate 2 (refine kX_one rfl ?_)
        refine hgo _ (isB_T ⟨k, by omega, ?_⟩).symm
        rw [List.getElem?_eq_getElem q]
        exact congrArg some (nI_inj (hk2.symm.trans q3))
theorem snoc_cases (l : List Nat) : l = [] ∨ ∃ l0 x, l = l0 ++ [x] := by
  induction l with
  | nil => exact Or.inl rfl
  | cons a l ih =>
    rcases ih with rfl | ⟨l0, x, rfl⟩
    · exact Or.inr ⟨[], a, rfl⟩
    · exact Or.inr ⟨a :: l0, x, rfl⟩
theorem sum_len {f : Nat → Nat} : ∀ (l : List Nat), (∀ x ∈ l, 1 ≤ f x) → l.length ≤ (l.map f).sum
  | [], _ => Nat.le_refl _
  | a :: l, h => by
    have h1 := h a List.mem_cons_self
    have h2 := sum_len l (fun x hx => h x (List.mem_cons_of_mem _ hx))
    simp only [List.length_cons, List.map_cons, List.sum_cons]
    omega
set_option maxRecDepth 100000 in
set_option maxHeartbeats 4000000 in
theorem mr_findVariables (L : Nat) (xs : Nat → Int32) (d : Nat) (σ : kS) (n b t : Nat) (h : mTb σ n b) (ht : t < n) : kXM kT L xs (d + 1) 164 [.ref 232, .int (nI t)] σ (fun r σ' => r = none ∧ ∃ W ST, σ' = fvS σ W ST (nI (ddl [] (tvs (σ 233) (σ 234) (σ 235) t)).length) ∧ lst ST (ddl [] (tvs (σ 233) (σ 234) (σ 235) t)) ∧ (ddl [] (tvs (σ 233) (σ 234) (σ 235) t)).length ≤ 24) := by
  obtain ⟨hn, hb1, hb2, -, -, hW, hG, -, -, hS⟩ := h
  have hV := hW.1
  have h1000 : ∀ x, mv n b x → x < 1000 := fun x q => by unfold mv at q; omega
  unfold kXM
  generalize hz : tsz (σ 233) (σ 234) (σ 235) = sz at hS
  have hpos : ∀ x, mv n b x → 1 ≤ sz x := fun x q => by rw [← hz]; exact tsz_pos hV q
  iterate 9 (refine kX_one rfl ?_)
  refine kX_iastN rfl rfl (by decide) (0) (by first | rfl | decide) (by decide) ?_
  have loop := kX_while (T := kT) (L := L) (xs := xs) (d := d + 1) (mi := 164) (pc := 14) (Q := fun r σ' => r = none ∧ ∃ W ST, σ' = fvS σ W ST (nI (ddl [] (tvs (σ 233) (σ 234) (σ 235) t)).length) ∧ lst ST (ddl [] (tvs (σ 233) (σ 234) (σ 235) t)) ∧ (ddl [] (tvs (σ 233) (σ 234) (σ 235) t)).length ≤ 24)
    (fun q : List Nat × List Nat × (Nat → Int32) × (Nat → Int32) => [(2, .int (nI q.1.length)), (0, .ref 232), (1, .int (nI t))])
    (fun q => fvS σ q.2.2.1 q.2.2.2 (nI q.2.1.length))
    (fun q => lst q.2.2.1 q.1 ∧ lst q.2.2.2 q.2.1 ∧ (∀ x ∈ q.1, mv n b x) ∧ q.2.1.length + (q.1.map sz).sum ≤ 24 ∧ ddl q.2.1 ((q.1.reverse.map (tvs (σ 233) (σ 234) (σ 235))).flatten) = ddl [] (tvs (σ 233) (σ 234) (σ 235) t) ∧ ∀ x ∈ q.2.1, mv n b x)
    (fun q => (q.1.map sz).sum) ?_ ([t], [], upd (σ 252) 0 (nI t), σ 251) ⟨lst_push (lst_nil _) t, lst_nil _, fun x hx => by rw [List.mem_singleton] at hx; subst hx; exact Or.inl ht, by simp; exact hS t ht, by simp, fun x hx => by cases hx⟩
  · refine kX_to _ _ rfl rfl rfl ?_ loop
    funext c; unfold fvS; first
      | ((repeat (refine va_case ?_ ?_; (· (intro h; first | (subst h; rfl) | (unfold va_up; repeat' split; (all_goals first | rfl | omega | (subst_vars; rfl) | (funext j; unfold upd; repeat' split; all_goals first | rfl | omega | (subst_vars; rfl)))))); intro h)); (repeat (refine va_case2 ?_ ?_; (· (intro h; first | exact absurd h (by assumption) | (subst h; rfl) | (subst h; funext j; unfold upd; repeat' split; (all_goals first | rfl | omega | (subst_vars; rfl))))); intro h)); rfl)
      | (unfold va_up; repeat' split
         all_goals first | rfl | omega | (subst_vars; rfl) | (funext j; unfold upd; repeat' split; all_goals first | rfl | omega | (subst_vars; rfl)))
  · rintro ⟨l, acc, W, ST⟩ ⟨i1, i2, i3, i4, i5, i6⟩ ih
    dsimp only at i1 i2 i3 i4 i5 i6 ih ⊢
    rcases snoc_cases l with rfl | ⟨l0, x, rfl⟩
    · iterate 2 (refine kX_one rfl ?_)
      refine kX_ret (i := .return_) (len := 1) rfl (Or.inr rfl) rfl ⟨rfl, W, ST, ?_, ?_, ?_⟩
      · have : acc = ddl [] (tvs (σ 233) (σ 234) (σ 235) t) := i5
        rw [← this]
      · have : acc = ddl [] (tvs (σ 233) (σ 234) (σ 235) t) := i5
        rw [← this]
        exact i2
      · have : acc = ddl [] (tvs (σ 233) (σ 234) (σ 235) t) := i5
        rw [← this]
        omega
    · have hx : mv n b x := i3 x (by simp)
      have hx1 := h1000 x hx
      have hxp := hpos x hx
      obtain ⟨w1, w2⟩ := lst_pop i1
      have hs : ((l0 ++ [x]).map sz).sum = (l0.map sz).sum + sz x := by simp
      rw [hs] at i4 ih
      have hl0 := sum_len l0 (fun z hz => hpos z (i3 z (by simp [hz])))
      have i3' : ∀ z ∈ l0, mv n b z := fun z hz => i3 z (by simp [hz])
      have e5 : ((l0 ++ [x]).reverse.map (tvs (σ 233) (σ 234) (σ 235))).flatten = tvs (σ 233) (σ 234) (σ 235) x ++ (l0.reverse.map (tvs (σ 233) (σ 234) (σ 235))).flatten := by simp
      rw [e5, ddl_app] at i5
      have elen : nI (l0 ++ [x]).length = nI (l0.length + 1) := by simp
      rw [elen]
      iterate 1 (refine kX_one rfl ?_)
      repeat refine kX_one rfl ?_
      refine kX_ifF (decide_eq_false (nI_nle (by omega) (by omega))) ?_
      iterate 4 (refine kX_one rfl ?_)
      refine kX_ialdN rfl rfl (by decide) l0.length (pk_m1 _) (by omega) ?_
      rw [show fvS σ W ST (nI acc.length) 252 l0.length = nI x from w1, show nI (l0.length + 1) + Int32.ofInt (-1) = nI l0.length from pk_m1 _]
      iterate 4 (refine kX_one rfl ?_)
      refine kX_ialdN rfl rfl (by decide) (x) (by first | rfl | decide) (hx1) ?_
      iterate 1 (refine kX_one rfl ?_)
      have hback : ∀ (τ : kS) (l' acc' : List Nat) (W' ST' : Nat → Int32), τ = fvS σ W' ST' (nI acc'.length) → lst W' l' → lst ST' acc' → (∀ x ∈ l', mv n b x) → acc'.length + (l'.map sz).sum ≤ 24 → (l'.map sz).sum < (l0.map sz).sum + sz x → ddl acc' ((l'.reverse.map (tvs (σ 233) (σ 234) (σ 235))).flatten) = ddl [] (tvs (σ 233) (σ 234) (σ 235) t) → (∀ x ∈ acc', mv n b x) → ∀ lv, nk lv = true → ([(2, Value.int (nI l'.length)), (0, .ref 232), (1, .int (nI t))] : jL).map (fun q => jl lv q.1) = ([(2, Value.int (nI l'.length)), (0, .ref 232), (1, .int (nI t))] : jL).map (fun q => some q.2) → kX kT L xs (d + 1) 164 158 lv [] τ (fun r σ' => r = none ∧ ∃ W ST, σ' = fvS σ W ST (nI (ddl [] (tvs (σ 233) (σ 234) (σ 235) t)).length) ∧ lst ST (ddl [] (tvs (σ 233) (σ 234) (σ 235) t)) ∧ (ddl [] (tvs (σ 233) (σ 234) (σ 235) t)).length ≤ 24) := by
        intro τ l' acc' W' ST' e j1 j2 j3 j4 j5 j6 j7 lv hk hlv
        refine kX_lv _ hk rfl hlv ?_
        rw [e]
        iterate 1 (refine kX_one rfl ?_)
        exact ih (l', acc', W', ST') ⟨j1, j2, j3, j4, j6, j7⟩ j5
      repeat refine kX_one rfl ?_
      refine kX_if (fun q => ?_) (fun q => ?_)
      · have q : σ 233 x ≠ nI 3 := qne q
        iterate 3 (refine kX_one rfl ?_)
        refine kX_baldN rfl rfl (by decide) (x) (by first | rfl | decide) (hx1) ?_
        rw [show fvS σ W ST (nI acc.length) 237 x = bI (tgd (σ 233) (σ 234) (σ 235) x) from hG x hx]
        repeat refine kX_one rfl ?_
        refine kX_if (fun q2 => ?_) (fun q2 => ?_)
        · have q2 := (bI_ne _).mp (qne q2)
          rw [(tgd_tvs hV x hx).mp q2] at i5
          exact hback _ l0 acc W ST rfl w2 i2 i3' (by omega) (by omega) i5 i6 _ rfl rfl
        · have q2 := (bI_eq _).mp (qneF q2)
          rcases (hV x hx).2 with ⟨k, h3, hk, -, -⟩ | ⟨k, y, z, h3, hk, hy, hz2, h4, h5, h6, h7⟩ | ⟨k, y, h3, hk, hy, hz2, h4, h6⟩
          · exfalso
            unfold tgd at q2
            rw [tA_0 hk h3] at q2
            exact of_decide_eq_false q2 q
          · have e6 : tvs (σ 233) (σ 234) (σ 235) x = tvs (σ 233) (σ 234) (σ 235) y ++ tvs (σ 233) (σ 234) (σ 235) z := by
              unfold tvs
              rw [tA_2 hV hk hy hz2 (by omega) (by omega) h4 h5 h6 h7]
              rfl
            have e7 : sz x = 1 + sz y + sz z := by
              rw [← hz]
              unfold tsz
              rw [tA_2 hV hk hy hz2 (by omega) (by omega) h4 h5 h6 h7]
              rfl
            iterate 3 (refine kX_one rfl ?_)
            refine kX_ialdN rfl rfl (by decide) (x) (by first | rfl | decide) (hx1) ?_
            rw [show fvS σ W ST (nI acc.length) 235 x = nI z from hz2]
            repeat refine kX_one rfl ?_
            refine kX_ifF (decide_eq_false (nI_pos (by have := h1000 z h7; omega))) ?_
            iterate 6 (refine kX_one rfl ?_)
            refine kX_ialdN rfl rfl (by decide) (x) (by first | rfl | decide) (hx1) ?_
            rw [show fvS σ W ST (nI acc.length) 235 x = nI z from hz2]
            refine kX_iastN rfl rfl (by decide) (l0.length) (by first | rfl | decide) (by omega) ?_
            iterate 7 (refine kX_one rfl ?_)
            refine kX_ialdN rfl rfl (by decide) (x) (by first | rfl | decide) (hx1) ?_
            rw [show (va_up (fvS σ W ST (nI acc.length)) 252 (upd (fvS σ W ST (nI acc.length) 252) l0.length (nI z))) 234 x = nI y from hy]
            refine kX_iastN rfl rfl (by decide) (l0.length + 1) (nI_1 _) (by omega) ?_
            iterate 1 (refine kX_one rfl ?_)
            refine hback _ (l0 ++ [z] ++ [y]) acc (upd (upd W l0.length (nI z)) (l0 ++ [z]).length (nI y)) ST ?_ (lst_push (lst_push w2 z) y) i2 ?_ ?_ ?_ ?_ i6 _ rfl ?_
            · rw [show (l0 ++ [z]).length = l0.length + 1 by simp]
              funext c; unfold fvS; first
                | ((repeat (refine va_case ?_ ?_; (· (intro h; first | (subst h; rfl) | (unfold va_up; repeat' split; (all_goals first | rfl | omega | (subst_vars; rfl) | (funext j; unfold upd; repeat' split; all_goals first | rfl | omega | (subst_vars; rfl)))))); intro h)); (repeat (refine va_case2 ?_ ?_; (· (intro h; first | exact absurd h (by assumption) | (subst h; rfl) | (subst h; funext j; unfold upd; repeat' split; (all_goals first | rfl | omega | (subst_vars; rfl))))); intro h)); rfl)
                | (unfold va_up; repeat' split
                   all_goals first | rfl | omega | (subst_vars; rfl) | (funext j; unfold upd; repeat' split; all_goals first | rfl | omega | (subst_vars; rfl)))
            · intro u hu
              simp only [List.mem_append, List.mem_singleton] at hu
              rcases hu with (hu | rfl) | rfl
              · exact i3' u hu
              · exact h7
              · exact h6
            · simp only [List.map_append, List.sum_append, List.map_cons, List.map_nil, List.sum_cons, List.sum_nil]
              omega
            · simp only [List.map_append, List.sum_append, List.map_cons, List.map_nil, List.sum_cons, List.sum_nil]
              omega
            · rw [e6, ddl_app] at i5
              rw [show ((l0 ++ [z] ++ [y]).reverse.map (tvs (σ 233) (σ 234) (σ 235))).flatten = tvs (σ 233) (σ 234) (σ 235) y ++ (tvs (σ 233) (σ 234) (σ 235) z ++ (l0.reverse.map (tvs (σ 233) (σ 234) (σ 235))).flatten) by simp, ddl_app, ddl_app]
              exact i5
            · rw [show nI (l0 ++ [z] ++ [y]).length = nI l0.length + 1 + 1 by rw [nI_1, nI_1]; simp]
              rfl
          · have e6 : tvs (σ 233) (σ 234) (σ 235) x = tvs (σ 233) (σ 234) (σ 235) y := by
              unfold tvs
              rw [tA_1 hV hk hy hz2 (by omega) (by omega) h4 h6]
              exact List.append_nil _
            have e7 : sz x = 1 + sz y := by
              rw [← hz]
              unfold tsz
              rw [tA_1 hV hk hy hz2 (by omega) (by omega) h4 h6]
              rfl
            iterate 3 (refine kX_one rfl ?_)
            refine kX_ialdN rfl rfl (by decide) (x) (by first | rfl | decide) (hx1) ?_
            rw [show fvS σ W ST (nI acc.length) 235 x = -1 from hz2]
            iterate 7 (refine kX_one rfl ?_)
            refine kX_ialdN rfl rfl (by decide) (x) (by first | rfl | decide) (hx1) ?_
            rw [show fvS σ W ST (nI acc.length) 234 x = nI y from hy]
            refine kX_iastN rfl rfl (by decide) (l0.length) (by first | rfl | decide) (by omega) ?_
            iterate 1 (refine kX_one rfl ?_)
            refine hback _ (l0 ++ [y]) acc (upd W l0.length (nI y)) ST ?_ (lst_push w2 y) i2 ?_ ?_ ?_ ?_ i6 _ rfl ?_
            · funext c; unfold fvS; first
                | ((repeat (refine va_case ?_ ?_; (· (intro h; first | (subst h; rfl) | (unfold va_up; repeat' split; (all_goals first | rfl | omega | (subst_vars; rfl) | (funext j; unfold upd; repeat' split; all_goals first | rfl | omega | (subst_vars; rfl)))))); intro h)); (repeat (refine va_case2 ?_ ?_; (· (intro h; first | exact absurd h (by assumption) | (subst h; rfl) | (subst h; funext j; unfold upd; repeat' split; (all_goals first | rfl | omega | (subst_vars; rfl))))); intro h)); rfl)
                | (unfold va_up; repeat' split
                   all_goals first | rfl | omega | (subst_vars; rfl) | (funext j; unfold upd; repeat' split; all_goals first | rfl | omega | (subst_vars; rfl)))
            · intro u hu
              simp only [List.mem_append, List.mem_singleton] at hu
              rcases hu with hu | rfl
              · exact i3' u hu
              · exact h6
            · simp only [List.map_append, List.sum_append, List.map_cons, List.map_nil, List.sum_cons, List.sum_nil]
              omega
            · simp only [List.map_append, List.sum_append, List.map_cons, List.map_nil, List.sum_cons, List.sum_nil]
              omega
            · rw [e6] at i5
              rw [show ((l0 ++ [y]).reverse.map (tvs (σ 233) (σ 234) (σ 235))).flatten = tvs (σ 233) (σ 234) (σ 235) y ++ (l0.reverse.map (tvs (σ 233) (σ 234) (σ 235))).flatten by simp, ddl_app]
              exact i5
            · rw [show nI (l0 ++ [y]).length = nI l0.length + 1 by rw [nI_1]; simp]
              rfl
      · have q : σ 233 x = nI 3 := qneF q
        have e6 : tvs (σ 233) (σ 234) (σ 235) x = [x] := by
          unfold tvs
          rw [tA_0 q (by omega), if_pos q]
        rw [e6, ddl_cons] at i5
        iterate 4 (refine kX_one rfl ?_)
        have hin := mr_fv_in L xs d σ W ST acc l0.length x (nI t) i2 (by omega) hx1 (fun z hz => h1000 z (i6 z hz)) (fun r σ' => r = none ∧ ∃ W ST, σ' = fvS σ W ST (nI (ddl [] (tvs (σ 233) (σ 234) (σ 235) t)).length) ∧ lst ST (ddl [] (tvs (σ 233) (σ 234) (σ 235) t)) ∧ (ddl [] (tvs (σ 233) (σ 234) (σ 235) t)).length ≤ 24) ?_ 0 (Nat.zero_le _)
        · rw [isB_F (fun ⟨i, hi, _⟩ => absurd hi (Nat.not_lt_zero i)), nI_0] at hin
          exact hin
        · iterate 1 (refine kX_one rfl ?_)
          repeat refine kX_one rfl ?_
          refine kX_if (fun q2 => ?_) (fun q2 => ?_)
          · have q2 := isB_ne.mp (qne q2)
            rw [if_pos q2] at i5
            iterate 1 (refine kX_one rfl ?_)
            exact hback _ l0 acc W ST rfl w2 i2 i3' (by omega) (by omega) i5 i6 _ rfl rfl
          · have q2 : x ∉ acc := fun hh => isB_ne.mpr hh (qneF q2)
            rw [if_neg q2] at i5
            iterate 5 (refine kX_one rfl ?_)
            refine kX_iastN rfl rfl (by decide) (acc.length) (by first | rfl | decide) (by omega) ?_
            iterate 7 (refine kX_one rfl ?_)
            refine hback _ l0 (acc ++ [x]) W (upd ST acc.length (nI x)) ?_ w2 (lst_push i2 x) i3' (by simp; omega) (by omega) i5 (fun u hu => ?_) _ rfl rfl
            · rw [show (acc ++ [x]).length = acc.length + 1 by simp, ← nI_1]
              funext c; unfold fvS; first
                | ((repeat (refine va_case ?_ ?_; (· (intro h; first | (subst h; rfl) | (unfold va_up; repeat' split; (all_goals first | rfl | omega | (subst_vars; rfl) | (funext j; unfold upd; repeat' split; all_goals first | rfl | omega | (subst_vars; rfl)))))); intro h)); (repeat (refine va_case2 ?_ ?_; (· (intro h; first | exact absurd h (by assumption) | (subst h; rfl) | (subst h; funext j; unfold upd; repeat' split; (all_goals first | rfl | omega | (subst_vars; rfl))))); intro h)); rfl)
                | (unfold va_up; repeat' split
                   all_goals first | rfl | omega | (subst_vars; rfl) | (funext j; unfold upd; repeat' split; all_goals first | rfl | omega | (subst_vars; rfl)))
            · rcases List.mem_append.mp hu with hu | hu
              · exact i6 u hu
              · rw [List.mem_singleton] at hu
                subst hu
                exact hx
end
section
/-! what a TERM is, as a tree; which trees a row makes -/
def vnd (k : Nat) (a : Jvm.Term) (b : Option Jvm.Term) : Jvm.Term := match b with
  | some b => if k = 4 then .add a b else if k = 5 then .sub a b else if k = 6 then .mul a b else .div a b
  | none => if k = 7 then .length a else .sum a
def tvl (K F S : Nat → Int32) (t : Nat) : Jvm.Term := tA (fun t => .arg t) vnd K F S t
theorem tvl_0 {K F S : Nat → Int32} {t k : Nat} (hk : K t = nI k) (h3 : k ≤ 3) : tvl K F S t = .arg t := tA_0 hk h3
section TVL
variable {V AG : Nat → Prop} {K F S : Nat → Int32}
theorem tvl_2 (hV : ∀ t, V t → t < 100000 ∧ tOk V AG K F S t) {t k x y : Nat} (hk : K t = nI k) (hx : F t = nI x) (hy : S t = nI y) (h3 : 3 < k) (hk9 : k ≤ 9) (h4 : x < t) (h5 : y < t) (h6 : V x) (h7 : V y) : tvl K F S t = vnd k (tvl K F S x) (some (tvl K F S y)) := tA_2 hV hk hx hy h3 hk9 h4 h5 h6 h7
theorem tvl_1 (hV : ∀ t, V t → t < 100000 ∧ tOk V AG K F S t) {t k x : Nat} (hk : K t = nI k) (hx : F t = nI x) (hy : S t = -1) (h3 : 3 < k) (hk9 : k ≤ 9) (h4 : x < t) (h6 : V x) : tvl K F S t = vnd k (tvl K F S x) none := tA_1 hV hk hx hy h3 hk9 h4 h6
/-- one tree, one TERM -/
theorem tvl_inj (hV : ∀ t, V t → t < 100000 ∧ tOk V AG K F S t) (hu : ∀ t u, V t → V u → 3 < fN (K t) → K t = K u → F t = F u → S t = S u → t = u) : ∀ t u, V t → V u → tvl K F S t = tvl K F S u → t = u := by
  intro t
  induction t using Nat.strongRecOn with
  | _ t ih =>
    intro u ht hu' e
    rcases (hV t ht).2 with ⟨k, h3, hk, -, -⟩ | ⟨k, x, y, h3, hk, hx, hy, h4, h5, h6, h7⟩ | ⟨k, x, h3, hk, hx, hy, h4, h6⟩
    · rw [tvl_0 hk h3] at e
      rcases (hV u hu').2 with ⟨k', h3', hk', -, -⟩ | ⟨k', x', y', h3', hk', hx', hy', h4', h5', h6', h7'⟩ | ⟨k', x', h3', hk', hx', hy', h4', h6'⟩
      · rw [tvl_0 hk' h3'] at e
        exact Jvm.Term.arg.inj e
      · rw [tvl_2 hV hk' hx' hy' (by omega) (by omega) h4' h5' h6' h7'] at e
        unfold vnd at e
        dsimp only at e
        repeat' split at e
        all_goals cases e
      · rw [tvl_1 hV hk' hx' hy' (by omega) (by omega) h4' h6'] at e
        unfold vnd at e
        dsimp only at e
        repeat' split at e
        all_goals cases e
    · rw [tvl_2 hV hk hx hy (by omega) (by omega) h4 h5 h6 h7] at e
      rcases (hV u hu').2 with ⟨k', h3', hk', -, -⟩ | ⟨k', x', y', h3', hk', hx', hy', h4', h5', h6', h7'⟩ | ⟨k', x', h3', hk', hx', hy', h4', h6'⟩
      · rw [tvl_0 hk' h3'] at e
        unfold vnd at e
        dsimp only at e
        repeat' split at e
        all_goals cases e
      · rw [tvl_2 hV hk' hx' hy' (by omega) (by omega) h4' h5' h6' h7'] at e
        have key : k = k' ∧ tvl K F S x = tvl K F S x' ∧ tvl K F S y = tvl K F S y' := by
          unfold vnd at e
          dsimp only at e
          repeat' split at e
          all_goals first | (cases e; exact ⟨by omega, by assumption, by assumption⟩) | (injection e with e1 e2; exact ⟨by omega, e1, e2⟩) | cases e
        obtain ⟨rfl, e1, e2⟩ := key
        have := ih x h4 x' h6 h6' e1
        subst this
        have := ih y h5 y' h7 h7' e2
        subst this
        exact hu t u ht hu' (by rw [hk, fN_nI (by omega)]; omega) (hk.trans hk'.symm) (hx.trans hx'.symm) (hy.trans hy'.symm)
      · rw [tvl_1 hV hk' hx' hy' (by omega) (by omega) h4' h6'] at e
        unfold vnd at e
        dsimp only at e
        repeat' split at e
        all_goals cases e
    · rw [tvl_1 hV hk hx hy (by omega) (by omega) h4 h6] at e
      rcases (hV u hu').2 with ⟨k', h3', hk', -, -⟩ | ⟨k', x', y', h3', hk', hx', hy', h4', h5', h6', h7'⟩ | ⟨k', x', h3', hk', hx', hy', h4', h6'⟩
      · rw [tvl_0 hk' h3'] at e
        unfold vnd at e
        dsimp only at e
        repeat' split at e
        all_goals cases e
      · rw [tvl_2 hV hk' hx' hy' (by omega) (by omega) h4' h5' h6' h7'] at e
        unfold vnd at e
        dsimp only at e
        repeat' split at e
        all_goals cases e
      · rw [tvl_1 hV hk' hx' hy' (by omega) (by omega) h4' h6'] at e
        have key : k = k' ∧ tvl K F S x = tvl K F S x' := by
          unfold vnd at e
          dsimp only at e
          repeat' split at e
          all_goals first | (injection e with e1; exact ⟨by omega, e1⟩) | cases e
        obtain ⟨rfl, e1⟩ := key
        have := ih x h4 x' h6 h6' e1
        subst this
        exact hu t u ht hu' (by rw [hk, fN_nI (by omega)]; omega) (hk.trans hk'.symm) (hx.trans hx'.symm) (hy.trans hy'.symm)
end TVL
/-- an AGENT that is not HONEST -/
def vnh (H : Nat → Int32) (a : Jvm.Term) : Prop := ∃ x, a = .arg x ∧ H x = 0
/-- what a row MAKES -/
def vmk (R : Jvm.Term → Prop) (A : Nat → Prop) (H : Nat → Int32) : Jvm.Term → Prop
  | .arg t => R (.arg t) ∨ A t
  | .add a b => R (.add a b) ∨ (vmk R A H a ∧ vmk R A H b)
  | .sub a b => R (.sub a b) ∨ (vmk R A H a ∧ vmk R A H b)
  | .mul a b => R (.mul a b) ∨ vmk R A H a
  | .sum a => R (.sum a) ∨ vmk R A H a
  | .length a => R (.length a) ∨ vnh H a
  | .div a b => R (.div a b) ∨ (vmk R A H a ∧ (vnh H b ∨ R (.length b)))
  | _ => False
end
section
/-! the reference's row -/
/-- how many below m -/
noncomputable def cnt (f : Nat → Prop) : Nat → Nat
  | 0 => 0
  | m + 1 => cnt f m + @ite _ (f m) (Classical.propDecidable _) 1 0
theorem cnt_le (f : Nat → Prop) : ∀ m, cnt f m ≤ m
  | 0 => Nat.le_refl _
  | m + 1 => by
    have := cnt_le f m
    unfold cnt
    split <;> omega
theorem cnt_lt {f : Nat → Prop} {t : Nat} (hf : ¬ f t) : ∀ m, t < m → cnt f m < m
  | 0, h => by omega
  | m + 1, h => by
    unfold cnt
    by_cases e : t = m
    · subst e
      have := cnt_le f t
      rw [if_neg hf]
      omega
    · have := cnt_lt hf m (by omega)
      split <;> omega
theorem cnt_congr {f g : Nat → Prop} : ∀ m, (∀ t, t < m → (f t ↔ g t)) → cnt f m = cnt g m
  | 0, _ => rfl
  | m + 1, h => by
    have h1 := cnt_congr m (fun t ht => h t (by omega))
    have h2 := propext (h m (by omega))
    unfold cnt
    rw [h1, h2]
theorem cnt_add {f g : Nat → Prop} {t : Nat} (hf : ¬ f t) (hg : ∀ u, g u ↔ f u ∨ u = t) : ∀ m, t < m → cnt g m = cnt f m + 1
  | 0, h => by omega
  | m + 1, h => by
    unfold cnt
    by_cases e : t = m
    · subst e
      have h1 : cnt g t = cnt f t := cnt_congr t (fun u hu => by rw [hg u]; exact ⟨fun q => q.elim id (fun q => by omega), Or.inl⟩)
      rw [h1, if_pos ((hg t).mpr (Or.inr rfl)), if_neg hf]
    · have h1 := cnt_add hf hg m (by omega)
      have h2 : g m = f m := propext (by rw [hg m]; exact ⟨fun q => q.elim id (fun q => absurd q.symm e), Or.inl⟩)
      rw [h1, h2]
      omega
abbrev rwT : Type := List (Nat × Int32 × Int32)
def rwI (l : rwT) (t : Nat) : Prop := ∃ q ∈ l, q.1 = t
/-- the row l lies there: TERMS of V, each once -/
def mRq (σ : kS) (V : Nat → Prop) (l : rwT) : Prop := σ 232 46 = nI l.length ∧ (∀ i (h : i < l.length), σ 268 i = nI (l[i]'h).1 ∧ σ 269 i = (l[i]'h).2.1 ∧ σ 270 i = (l[i]'h).2.2) ∧ (∀ t, rwI l t → V t) ∧ (∀ t, t < 1000 → σ 271 t = isB (rwI l t)) ∧ cnt (rwI l) 1000 = l.length
noncomputable def rwA (l : rwT) (t : Nat) (w p : Int32) : rwT := @ite _ (rwI l t) (Classical.propDecidable _) l (l ++ [(t, w, p)])
theorem rwI_app {l : rwT} {t u : Nat} {w p : Int32} : rwI (l ++ [(t, w, p)]) u ↔ rwI l u ∨ u = t := by
  unfold rwI
  constructor
  · rintro ⟨q, hq, rfl⟩
    rcases List.mem_append.mp hq with h | h
    · exact Or.inl ⟨q, h, rfl⟩
    · rw [List.mem_singleton] at h
      subst h
      exact Or.inr rfl
  · rintro (⟨q, hq, rfl⟩ | rfl)
    · exact ⟨q, List.mem_append_left _ hq, rfl⟩
    · exact ⟨(u, w, p), by simp, rfl⟩
/-- contents with another row -/
def mRu (σ : kS) (I R H M : Nat → Int32) (o : Nat → Int32) : kS := va_up (va_up (va_up (va_up (va_up σ 271 I) 268 R) 269 H) 270 M) 232 o
theorem mRq_len {σ : kS} {V : Nat → Prop} {l : rwT} (h : mRq σ V l) : l.length ≤ 1000 := by
  rw [← h.2.2.2.2]
  exact cnt_le _ _
set_option maxRecDepth 100000 in
set_option maxHeartbeats 4000000 in
theorem mr_comes (L : Nat) (xs : Nat → Int32) (d : Nat) (σ : kS) (V : Nat → Prop) (l : rwT) (t : Nat) (w p : Int32) (h : mRq σ V l) (ht : t < 1000) (hv : V t) : kXM kT L xs (d + 1) 178 [.ref 232, .int (nI t), .int w, .int p] σ (fun r σ' => r = none ∧ mRq σ' V (rwA l t w p) ∧ ∃ I R H M, σ' = mRu σ I R H M (upd (σ 232) 46 (nI (rwA l t w p).length))) := by
  obtain ⟨h1, h2, h3, h4, h5⟩ := h
  unfold kXM
  repeat refine kX_one rfl ?_
  refine kX_baldN rfl rfl (by decide) (t) (by first | rfl | decide) (ht) ?_
  rw [h4 t ht]
  repeat refine kX_one rfl ?_
  refine kX_if (fun q => ?_) (fun q => ?_)
  · have q := isB_ne.mp (qne q)
    have e : rwA l t w p = l := if_pos q
    refine kX_ret (i := .return_) (len := 1) rfl (Or.inr rfl) rfl ⟨rfl, ?_, σ 271, σ 268, σ 269, σ 270, ?_⟩
    · rw [e]
      exact ⟨h1, h2, h3, h4, h5⟩
    · rw [e]
      funext c; unfold mRu va_up; repeat' split
      all_goals first | rfl | (next e => subst e; rfl) | skip
      all_goals (next e => subst e; funext j; unfold upd; split; (· next e2 => rw [e2]; exact h1); (· rfl))
  · have q : ¬ rwI l t := fun hh => isB_ne.mpr hh (qneF q)
    have e : rwA l t w p = l ++ [(t, w, p)] := if_neg q
    have hlen : l.length < 1000 := by
      rw [← h5]
      exact cnt_lt q _ ht
    repeat refine kX_one rfl ?_
    refine kX_bastN rfl rfl (by decide) (t) (by first | rfl | decide) (ht) (Or.inr rfl) ?_
    repeat refine kX_one rfl ?_
    refine kX_iastN rfl rfl (by decide) l.length h1 hlen ?_
    repeat refine kX_one rfl ?_
    refine kX_iastN rfl rfl (by decide) l.length h1 hlen ?_
    repeat refine kX_one rfl ?_
    refine kX_iastN rfl rfl (by decide) l.length h1 hlen ?_
    repeat refine kX_one rfl ?_
    refine kX_ret (i := .return_) (len := 1) rfl (Or.inr rfl) rfl ⟨rfl, ?_, upd (σ 271) t 1, upd (σ 268) l.length (nI t), upd (σ 269) l.length w, upd (σ 270) l.length p, ?_⟩
    · rw [e]
      refine ⟨?_, fun i hi => ?_, fun u hu => ?_, fun u hu => ?_, ?_⟩
      · rw [List.length_append]
        show σ 232 46 + Int32.ofInt 1 = nI (l.length + 1)
        rw [h1]
        exact nI_1 _
      · rw [List.length_append] at hi
        simp only [List.length_cons, List.length_nil] at hi
        by_cases ei : i = l.length
        · subst ei
          refine ⟨?_, ?_, ?_⟩
          · show upd (σ 268) l.length (nI t) l.length = _
            rw [pk_us]
            simp
          · show upd (σ 269) l.length w l.length = _
            rw [pk_us]
            simp
          · show upd (σ 270) l.length p l.length = _
            rw [pk_us]
            simp
        · have hil : i < l.length := by omega
          rw [List.getElem_append_left hil]
          refine ⟨?_, ?_, ?_⟩
          · show upd (σ 268) l.length (nI t) i = _
            rw [pk_un ei]
            exact (h2 i hil).1
          · show upd (σ 269) l.length w i = _
            rw [pk_un ei]
            exact (h2 i hil).2.1
          · show upd (σ 270) l.length p i = _
            rw [pk_un ei]
            exact (h2 i hil).2.2
      · rcases rwI_app.mp hu with hu | rfl
        · exact h3 u hu
        · exact hv
      · show upd (σ 271) t (Int32.ofInt 1) u = _
        by_cases eu : u = t
        · subst eu
          rw [pk_us, isB_T (rwI_app.mpr (Or.inr rfl))]
          rfl
        · rw [pk_un eu, h4 u hu]
          have : rwI (l ++ [(t, w, p)]) u ↔ rwI l u := by
            rw [rwI_app]
            exact ⟨fun q => q.elim id (fun q => absurd q eu), Or.inl⟩
          rw [propext this]
      · rw [cnt_add (t := t) q (fun u => rwI_app) 1000 ht, h5, List.length_append]
        rfl
    · rw [e, List.length_append]
      have e1 : nI (l.length + [(t, w, p)].length) = σ 232 46 + Int32.ofInt 1 := by
        rw [h1]
        exact (nI_1 _).symm
      rw [e1]
      rfl
end
section
/-! the reference: what the row makes -/
def mR (σ : kS) (l : rwT) (g : Jvm.Term) : Prop := ∃ t, rwI l t ∧ tvl (σ 233) (σ 234) (σ 235) t = g
def mA (σ : kS) (t : Nat) : Prop := t < 200 ∧ σ 233 t = nI 0
def mMk (σ : kS) (l : rwT) (t : Nat) : Prop := tgd (σ 233) (σ 234) (σ 235) t = true ∧ vmk (mR σ l) (mA σ) (σ 238) (tvl (σ 233) (σ 234) (σ 235) t)
/-- TERMS of the table that are GROUND -/
def mvG (σ : kS) (n b t : Nat) : Prop := mv n b t ∧ tgd (σ 233) (σ 234) (σ 235) t = true
theorem mTb_inj {σ : kS} {n b t u : Nat} (h : mTb σ n b) (ht : mv n b t) (hu : mv n b u) (e : tvl (σ 233) (σ 234) (σ 235) t = tvl (σ 233) (σ 234) (σ 235) u) : t = u := tvl_inj h.2.2.2.2.2.1.1 h.2.2.2.2.2.1.2.2 t u ht hu e
theorem mR_iff {σ : kS} {n b : Nat} {l : rwT} (h : mTb σ n b) (hl : ∀ t, rwI l t → mvG σ n b t) {t : Nat} (ht : mv n b t) : mR σ l (tvl (σ 233) (σ 234) (σ 235) t) ↔ rwI l t :=
  ⟨fun ⟨u, hu, e⟩ => by rw [← mTb_inj h (hl u hu).1 ht e]; exact hu, fun q => ⟨t, q, rfl⟩⟩
/-- the PRIVATE of an AGENT among the TERMS -/
theorem tvl_priv {V AG : Nat → Prop} {K F S : Nat → Int32} (hV : ∀ t, V t → t < 100000 ∧ tOk V AG K F S t) {t y : Nat} (ht : V t) (e : tvl K F S t = .length (.arg y)) : K t = nI 7 ∧ F t = nI y ∧ S t = -1 := by
  rcases (hV t ht).2 with ⟨k, h3, hk, -, -⟩ | ⟨k, x, z, h3, hk, hx, hy, h4, h5, h6, h7⟩ | ⟨k, x, h3, hk, hx, hy, h4, h6⟩
  · rw [tvl_0 hk h3] at e
    cases e
  · rw [tvl_2 hV hk hx hy (by omega) (by omega) h4 h5 h6 h7] at e
    unfold vnd at e
    dsimp only at e
    repeat' split at e
    all_goals cases e
  · rw [tvl_1 hV hk hx hy (by omega) (by omega) h4 h6] at e
    unfold vnd at e
    dsimp only at e
    split at e
    · next e7 =>
      injection e with e
      subst e7
      refine ⟨hk, ?_, hy⟩
      rcases (hV x h6).2 with ⟨k, h3, hk, -, -⟩ | ⟨k, x', z, h3, hk, hx', hy', h4', h5, h6', h7⟩ | ⟨k, x', h3, hk, hx', hy', h4', h6'⟩
      · rw [tvl_0 hk h3] at e
        rw [hx, Jvm.Term.arg.inj e]
      · rw [tvl_2 hV hk hx' hy' (by omega) (by omega) h4' h5 h6' h7] at e
        unfold vnd at e
        dsimp only at e
        repeat' split at e
        all_goals cases e
      · rw [tvl_1 hV hk hx' hy' (by omega) (by omega) h4' h6'] at e
        unfold vnd at e
        dsimp only at e
        repeat' split at e
        all_goals cases e
    · cases e
set_option maxRecDepth 100000 in
set_option maxHeartbeats 4000000 in
theorem mr_hasPrivate (L : Nat) (xs : Nat → Int32) (d : Nat) (σ : kS) (n b : Nat) (l : rwT) (y : Nat) (h : mTb σ n b) (hq : mRq σ (mvG σ n b) l) (hy : y < n) (hk : σ 233 y = nI 0) : kXM kT L xs (d + 2) 180 [.ref 232, .int (nI y)] σ (fun r σ' => r = some (.int (isB (vnh (σ 238) (.arg y) ∨ mR σ l (.length (.arg y))))) ∧ σ = σ') := by
  have hn := h.1
  have hb := h.2.2.1
  have hV := h.2.2.2.2.2.1.1
  unfold kXM
  repeat refine kX_one rfl ?_
  refine kX_cal (mTb_find h L xs d 7 (nI y) (-1) (by decide) (by decide)) rfl (Or.inr rfl) rfl rfl rfl (fun r1 σ1 q1 => ?_)
  obtain ⟨rfl, q1⟩ := q1
  have e1 : ∀ t, mv n b t → (mIs σ t (nI 7) (nI y) (-1) ↔ tvl (σ 233) (σ 234) (σ 235) t = .length (.arg y)) := fun t ht => by
    constructor
    · rintro ⟨i1, i2, i3⟩
      have hyv : mv n b y := Or.inl hy
      have hlt : y < t := by
        rcases (hV t ht).2 with ⟨k, h3, hk', -, -⟩ | ⟨k, x, z, h3, hk', hx, hz, h4, h5, h6, h7⟩ | ⟨k, x, h3, hk', hx, hz, h4, h6⟩
        · have := nI_inj (i1.symm.trans hk')
          omega
        · have := nI_inj (i1.symm.trans hk')
          omega
        · have : y = x := nI_inj (i2.symm.trans hx) (by omega) (by have := (hV x h6).1; omega)
          omega
      rw [tvl_1 hV i1 i2 i3 (by decide) (by decide) hlt hyv, tvl_0 hk (by decide)]
      rfl
    · intro e
      exact tvl_priv hV ht e
  have hv0 : vnh (σ 238) (.arg y) ↔ σ 238 y = 0 := ⟨fun ⟨x, e, hx⟩ => by rw [Jvm.Term.arg.inj e]; exact hx, fun q => ⟨y, rfl, q⟩⟩
  rcases q1 with ⟨rfl, hno⟩ | ⟨t, rfl, ht, hi⟩
  · have hR : ¬ mR σ l (.length (.arg y)) := fun ⟨t, ht, e⟩ => hno t (hq.2.2.1 t ht).1 ((e1 t (hq.2.2.1 t ht).1).mpr e)
    repeat refine kX_one rfl ?_
    refine kX_baldN rfl rfl (by decide) (y) (by first | rfl | decide) (by omega) ?_
    repeat refine kX_one rfl ?_
    refine kX_if (fun q => ?_) (fun q => ?_)
    · have q := qeq q
      repeat refine kX_one rfl ?_
      refine kX_ret (i := .ireturn) (len := 1) rfl (Or.inr rfl) rfl (⟨by rw [isB_T (Or.inl (hv0.mpr q))]; rfl, rfl⟩)
    · have q := qeqF q
      repeat refine kX_one rfl ?_
      refine kX_ret (i := .ireturn) (len := 1) rfl (Or.inr rfl) rfl (⟨by rw [isB_F (fun z => z.elim (fun z => q (hv0.mp z)) hR)]; rfl, rfl⟩)
  · have ht1 : t < 1000 := by unfold mv at ht; omega
    have hR : mR σ l (.length (.arg y)) ↔ rwI l t := by
      rw [← (e1 t ht).mp hi]
      exact mR_iff h hq.2.2.1 ht
    repeat refine kX_one rfl ?_
    refine kX_baldN rfl rfl (by decide) (y) (by first | rfl | decide) (by omega) ?_
    repeat refine kX_one rfl ?_
    refine kX_if (fun q => ?_) (fun q => ?_)
    · have q := qeq q
      repeat refine kX_one rfl ?_
      refine kX_ret (i := .ireturn) (len := 1) rfl (Or.inr rfl) rfl (⟨by rw [isB_T (Or.inl (hv0.mpr q))]; rfl, rfl⟩)
    · have q := qeqF q
      iterate 1 (refine kX_one rfl ?_)
      repeat refine kX_one rfl ?_
      refine kX_ifF (decide_eq_false (nI_pos (by omega))) ?_
      repeat refine kX_one rfl ?_
      refine kX_baldN rfl rfl (by decide) (t) (by first | rfl | decide) (ht1) ?_
      rw [hq.2.2.2.1 t ht1]
      repeat refine kX_one rfl ?_
      refine kX_if (fun q2 => ?_) (fun q2 => ?_)
      · have q2 : ¬ rwI l t := fun z => isB_ne.mpr z (qeq q2)
        repeat refine kX_one rfl ?_
        refine kX_ret (i := .ireturn) (len := 1) rfl (Or.inr rfl) rfl (⟨by rw [isB_F (fun z => z.elim (fun z => q (hv0.mp z)) (fun z => q2 (hR.mp z)))]; rfl, rfl⟩)
      · have q2 : rwI l t := isB_ne.mp (qeqF q2)
        repeat refine kX_one rfl ?_
        refine kX_ret (i := .ireturn) (len := 1) rfl (Or.inr rfl) rfl (⟨by rw [isB_T (Or.inr (hR.mpr q2))]; rfl, rfl⟩)
theorem tgd_2 {V AG : Nat → Prop} {K F S : Nat → Int32} (hV : ∀ t, V t → t < 100000 ∧ tOk V AG K F S t) {t k x y : Nat} (hk : K t = nI k) (hx : F t = nI x) (hy : S t = nI y) (h3 : 3 < k) (hk9 : k ≤ 9) (h4 : x < t) (h5 : y < t) (h6 : V x) (h7 : V y) : tgd K F S t = (tgd K F S x && tgd K F S y) := tA_2 hV hk hx hy h3 hk9 h4 h5 h6 h7
theorem tgd_1 {V AG : Nat → Prop} {K F S : Nat → Int32} (hV : ∀ t, V t → t < 100000 ∧ tOk V AG K F S t) {t k x : Nat} (hk : K t = nI k) (hx : F t = nI x) (hy : S t = -1) (h3 : 3 < k) (hk9 : k ≤ 9) (h4 : x < t) (h6 : V x) : tgd K F S t = tgd K F S x := by
  have : tgd K F S t = (tgd K F S x && true) := tA_1 hV hk hx hy h3 hk9 h4 h6
  rw [this, Bool.and_true]
theorem tgd_0 {K F S : Nat → Int32} {t k : Nat} (hk : K t = nI k) (h3 : k ≤ 3) : tgd K F S t = decide (k ≠ 3) := by
  have : tgd K F S t = decide (K t ≠ nI 3) := tA_0 hk h3
  rw [this, hk]
  by_cases e : k = 3
  · subst e; rfl
  · rw [decide_eq_true e, decide_eq_true (nI_ne e)]
set_option maxRecDepth 100000 in
set_option maxHeartbeats 4000000 in
theorem mr_isMade (L : Nat) (xs : Nat → Int32) (d : Nat) (σ : kS) (n b : Nat) (l : rwT) (t : Nat) (h : mTb σ n b) (hq : mRq σ (mvG σ n b) l) (ht : mv n b t) (hmk : ∀ x, x < t → mv n b x → σ 272 x = isB (mMk σ l x)) : kXM kT L xs (d + 3) 181 [.ref 232, .int (nI t)] σ (fun r σ' => r = some (.int (isB (mMk σ l t))) ∧ σ = σ') := by
  have hn := h.1
  have hb := h.2.2.1
  have hV := h.2.2.2.2.2.1.1
  have hG := h.2.2.2.2.2.2.1
  have ht1 : t < 1000 := by unfold mv at ht; omega
  have hR := fun u (hu : mv n b u) => mR_iff h hq.2.2.1 hu
  have h1000 : ∀ x, mv n b x → x < 1000 := fun x q => by unfold mv at q; omega
  have h01 : ∀ P : Prop, isB P = 0 ∨ isB P = 1 := fun P => by
    by_cases hp : P
    · exact Or.inr (isB_T hp)
    · exact Or.inl (isB_F hp)
  unfold kXM
  repeat refine kX_one rfl ?_
  refine kX_baldN rfl rfl (by decide) (t) (by first | rfl | decide) (ht1) ?_
  rw [hq.2.2.2.1 t ht1]
  repeat refine kX_one rfl ?_
  refine kX_if (fun q => ?_) (fun q => ?_)
  · have q : ¬ rwI l t := fun z => isB_ne.mpr z (qeq q)
    have qR : ¬ mR σ l (tvl (σ 233) (σ 234) (σ 235) t) := fun z => q ((hR t ht).mp z)
    repeat refine kX_one rfl ?_
    refine kX_baldN rfl rfl (by decide) (t) (by first | rfl | decide) (ht1) ?_
    rw [hG t ht]
    repeat refine kX_one rfl ?_
    refine kX_if (fun q2 => ?_) (fun q2 => ?_)
    · have q2 := (bI_ne _).mp (qne q2)
      repeat refine kX_one rfl ?_
      refine kX_ialdN rfl rfl (by decide) (t) (by first | rfl | decide) (ht1) ?_
      have red : ∀ r : Int32, r = isB (vmk (mR σ l) (mA σ) (σ 238) (tvl (σ 233) (σ 234) (σ 235) t)) → (some (Value.int r) = some (.int (isB (mMk σ l t))) ∧ σ = σ) := fun r hr => by
        refine ⟨?_, rfl⟩
        rw [hr]
        have : mMk σ l t ↔ vmk (mR σ l) (mA σ) (σ 238) (tvl (σ 233) (σ 234) (σ 235) t) := ⟨fun z => z.2, fun z => ⟨q2, z⟩⟩
        rw [propext this]
      rcases (hV t ht).2 with ⟨k, h3, hk, -, -⟩ | ⟨k, x, y, h3, hk, hx, hy, h4, h5, h6, h7⟩ | ⟨k, x, h3, hk, hx, hy, h4, h6⟩
      · rw [hk]
        rw [tvl_0 hk h3] at qR red
        have ht200 : t < 200 := by
          refine Nat.not_le.mp (fun hge => ?_)
          have h9 := h.2.2.2.2.2.2.2.2.1 t hge (by unfold mv at ht; omega)
          rw [hk, fN_nI (by omega)] at h9
          omega
        obtain rfl | rfl | rfl | rfl : k = 0 ∨ k = 1 ∨ k = 2 ∨ k = 3 := by omega
        · repeat refine kX_one rfl ?_
          refine kX_ret (i := .ireturn) (len := 1) rfl (Or.inr rfl) rfl (red _ (isB_T (Or.inr ⟨ht200, hk⟩)).symm)
        · repeat refine kX_one rfl ?_
          refine kX_ret (i := .ireturn) (len := 1) rfl (Or.inr rfl) rfl (red _ (isB_F (fun z => z.elim qR (fun z => absurd (hk.symm.trans z.2) (by decide)))).symm)
        · repeat refine kX_one rfl ?_
          refine kX_ret (i := .ireturn) (len := 1) rfl (Or.inr rfl) rfl (red _ (isB_F (fun z => z.elim qR (fun z => absurd (hk.symm.trans z.2) (by decide)))).symm)
        · rw [tgd_0 hk h3] at q2
          exact absurd rfl (of_decide_eq_true q2)
      · rw [hk]
        have hgxy := tgd_2 hV hk hx hy (by omega) (by omega) h4 h5 h6 h7
        rw [q2] at hgxy
        have hgx : tgd (σ 233) (σ 234) (σ 235) x = true := by
          have := hgxy.symm
          rw [Bool.and_eq_true] at this
          exact this.1
        have hgy : tgd (σ 233) (σ 234) (σ 235) y = true := by
          have := hgxy.symm
          rw [Bool.and_eq_true] at this
          exact this.2
        have mx : mMk σ l x ↔ vmk (mR σ l) (mA σ) (σ 238) (tvl (σ 233) (σ 234) (σ 235) x) := ⟨fun z => z.2, fun z => ⟨hgx, z⟩⟩
        have my : mMk σ l y ↔ vmk (mR σ l) (mA σ) (σ 238) (tvl (σ 233) (σ 234) (σ 235) y) := ⟨fun z => z.2, fun z => ⟨hgy, z⟩⟩
        rw [tvl_2 hV hk hx hy (by omega) (by omega) h4 h5 h6 h7] at qR red
        have two : ∀ g : Jvm.Term, (vmk (mR σ l) (mA σ) (σ 238) g ↔ vmk (mR σ l) (mA σ) (σ 238) (tvl (σ 233) (σ 234) (σ 235) x) ∧ vmk (mR σ l) (mA σ) (σ 238) (tvl (σ 233) (σ 234) (σ 235) y)) → (∀ r : Int32, r = isB (vmk (mR σ l) (mA σ) (σ 238) g) → (some (Value.int r) = some (.int (isB (mMk σ l t))) ∧ σ = σ)) →
            kX kT L xs (d + 3) 181 86 [(0, .ref 232), (1, .int (nI t))] [] σ (fun r σ' => r = some (.int (isB (mMk σ l t))) ∧ σ = σ') := by
          intro g hg redg
          repeat refine kX_one rfl ?_
          refine kX_ialdN rfl rfl (by decide) (t) (by first | rfl | decide) (ht1) ?_
          rw [hx]
          refine kX_baldN rfl rfl (by decide) (x) (by first | rfl | decide) (h1000 x h6) ?_
          rw [hmk x h4 h6]
          repeat refine kX_one rfl ?_
          refine kX_if (fun q3 => ?_) (fun q3 => ?_)
          · have q3 : ¬ mMk σ l x := fun z => isB_ne.mpr z (qeq q3)
            repeat refine kX_one rfl ?_
            refine kX_ret (i := .ireturn) (len := 1) rfl (Or.inr rfl) rfl (redg _ (isB_F (fun z => q3 (mx.mpr (hg.mp z).1))).symm)
          · have q3 : mMk σ l x := isB_ne.mp (qeqF q3)
            repeat refine kX_one rfl ?_
            refine kX_ialdN rfl rfl (by decide) (t) (by first | rfl | decide) (ht1) ?_
            rw [hy]
            refine kX_baldN rfl rfl (by decide) (y) (by first | rfl | decide) (h1000 y h7) ?_
            rw [hmk y h5 h7]
            repeat refine kX_one rfl ?_
            refine kX_if (fun q4 => ?_) (fun q4 => ?_)
            · have q4 : ¬ mMk σ l y := fun z => isB_ne.mpr z (qeq q4)
              repeat refine kX_one rfl ?_
              refine kX_ret (i := .ireturn) (len := 1) rfl (Or.inr rfl) rfl (redg _ (isB_F (fun z => q4 (my.mpr (hg.mp z).2))).symm)
            · have q4 : mMk σ l y := isB_ne.mp (qeqF q4)
              repeat refine kX_one rfl ?_
              refine kX_ret (i := .ireturn) (len := 1) rfl (Or.inr rfl) rfl (redg _ (isB_T (hg.mpr ⟨mx.mp q3, my.mp q4⟩)).symm)
        rcases h3 with rfl | rfl | ⟨h3, hag⟩
        · iterate 1 (refine kX_one rfl ?_)
          exact two (Jvm.Term.add (tvl (σ 233) (σ 234) (σ 235) x) (tvl (σ 233) (σ 234) (σ 235) y)) ⟨fun z => Or.elim z (fun z => absurd z qR) id, Or.inr⟩ red
        · iterate 1 (refine kX_one rfl ?_)
          exact two (Jvm.Term.sub (tvl (σ 233) (σ 234) (σ 235) x) (tvl (σ 233) (σ 234) (σ 235) y)) ⟨fun z => Or.elim z (fun z => absurd z qR) id, Or.inr⟩ red
        · have hy0 : σ 233 y = nI 0 := by
            rcases hag.2 with e | ⟨e, -⟩
            · exact e
            · rw [tgd_0 e (by decide)] at hgy
              exact absurd rfl (of_decide_eq_true hgy)
          rcases h3 with rfl | rfl
          · repeat refine kX_one rfl ?_
            refine kX_ialdN rfl rfl (by decide) (t) (by first | rfl | decide) (ht1) ?_
            rw [hx]
            refine kX_baldN rfl rfl (by decide) (x) (by first | rfl | decide) (h1000 x h6) ?_
            rw [hmk x h4 h6]
            refine kX_ret (i := .ireturn) (len := 1) rfl (Or.inr rfl) (jend_b rfl (h01 _)) (red _ (by rw [propext mx]; exact congrArg isB (propext ⟨Or.inr, fun z => z.elim (fun z => absurd z qR) id⟩)))
          · repeat refine kX_one rfl ?_
            refine kX_ialdN rfl rfl (by decide) (t) (by first | rfl | decide) (ht1) ?_
            rw [hx]
            refine kX_baldN rfl rfl (by decide) (x) (by first | rfl | decide) (h1000 x h6) ?_
            rw [hmk x h4 h6]
            rw [tvl_0 hy0 (by decide)] at qR red
            repeat refine kX_one rfl ?_
            refine kX_if (fun q3 => ?_) (fun q3 => ?_)
            · have q3 : ¬ mMk σ l x := fun z => isB_ne.mpr z (qeq q3)
              repeat refine kX_one rfl ?_
              refine kX_ret (i := .ireturn) (len := 1) rfl (Or.inr rfl) rfl (red _ (isB_F (fun z => z.elim qR (fun z => q3 (mx.mpr z.1)))).symm)
            · have q3 : mMk σ l x := isB_ne.mp (qeqF q3)
              repeat refine kX_one rfl ?_
              refine kX_ialdN rfl rfl (by decide) (t) (by first | rfl | decide) (ht1) ?_
              rw [hy]
              refine kX_cal (mr_hasPrivate L xs d σ n b l y h hq hag.1 hy0) rfl (Or.inr rfl) rfl rfl rfl (fun r1 σ1 q1 => ?_)
              obtain ⟨rfl, rfl⟩ := q1
              repeat refine kX_one rfl ?_
              refine kX_if (fun q4 => ?_) (fun q4 => ?_)
              · have q4 := fun z => isB_ne.mpr z (qeq q4)
                repeat refine kX_one rfl ?_
                refine kX_ret (i := .ireturn) (len := 1) rfl (Or.inr rfl) rfl (red _ (isB_F (fun z => z.elim qR (fun z => q4 z.2))).symm)
              · have q4 := isB_ne.mp (qeqF q4)
                repeat refine kX_one rfl ?_
                refine kX_ret (i := .ireturn) (len := 1) rfl (Or.inr rfl) rfl (red _ (isB_T (Or.inr ⟨mx.mp q3, q4⟩)).symm)
      · rw [hk]
        have hgx := tgd_1 hV hk hx hy (by omega) (by omega) h4 h6
        rw [q2] at hgx
        have mx : mMk σ l x ↔ vmk (mR σ l) (mA σ) (σ 238) (tvl (σ 233) (σ 234) (σ 235) x) := ⟨fun z => z.2, fun z => ⟨hgx.symm, z⟩⟩
        rw [tvl_1 hV hk hx hy (by omega) (by omega) h4 h6] at qR red
        rcases h3 with rfl | ⟨rfl, hag⟩
        · repeat refine kX_one rfl ?_
          refine kX_ialdN rfl rfl (by decide) (t) (by first | rfl | decide) (ht1) ?_
          rw [hx]
          refine kX_baldN rfl rfl (by decide) (x) (by first | rfl | decide) (h1000 x h6) ?_
          rw [hmk x h4 h6]
          refine kX_ret (i := .ireturn) (len := 1) rfl (Or.inr rfl) (jend_b rfl (h01 _)) (red _ (by rw [propext mx]; exact congrArg isB (propext ⟨Or.inr, fun z => z.elim (fun z => absurd z qR) id⟩)))
        · have hx0 : σ 233 x = nI 0 := by
            rcases hag.2 with e | ⟨e, -⟩
            · exact e
            · rw [tgd_0 e (by decide)] at hgx
              exact absurd rfl (of_decide_eq_true hgx.symm)
          rw [tvl_0 hx0 (by decide)] at qR red
          have hv0 : vnh (σ 238) (.arg x) ↔ σ 238 x = 0 := ⟨fun ⟨z, e, hz⟩ => by rw [Jvm.Term.arg.inj e]; exact hz, fun q => ⟨x, rfl, q⟩⟩
          repeat refine kX_one rfl ?_
          refine kX_ialdN rfl rfl (by decide) (t) (by first | rfl | decide) (ht1) ?_
          rw [hx]
          refine kX_baldN rfl rfl (by decide) (x) (by first | rfl | decide) (by have := hag.1; omega) ?_
          repeat refine kX_one rfl ?_
          refine kX_if (fun q3 => ?_) (fun q3 => ?_)
          · have q3 := qne q3
            repeat refine kX_one rfl ?_
            refine kX_ret (i := .ireturn) (len := 1) rfl (Or.inr rfl) rfl (red _ (isB_F (fun z => z.elim qR (fun z => q3 (hv0.mp z)))).symm)
          · have q3 := qneF q3
            repeat refine kX_one rfl ?_
            refine kX_ret (i := .ireturn) (len := 1) rfl (Or.inr rfl) rfl (red _ (isB_T (Or.inr (hv0.mpr q3))).symm)
    · have q2 := (bI_eq _).mp (qneF q2)
      repeat refine kX_one rfl ?_
      refine kX_ret (i := .ireturn) (len := 1) rfl (Or.inr rfl) rfl (⟨by rw [isB_F (fun z => absurd z.1 (by rw [q2]; decide))]; rfl, rfl⟩)
  · have q : rwI l t := isB_ne.mp (qeqF q)
    repeat refine kX_one rfl ?_
    refine kX_ret (i := .ireturn) (len := 1) rfl (Or.inr rfl) rfl ⟨?_, rfl⟩
    have hm : mMk σ l t := by
      refine ⟨(hq.2.2.1 t q).2, ?_⟩
      have hRt := (hR t ht).mpr q
      have hgt := (hq.2.2.1 t q).2
      rcases (hV t ht).2 with ⟨k, h3, hk, -, -⟩ | ⟨k, x, y, h3, hk, hx, hy, h4, h5, h6, h7⟩ | ⟨k, x, h3, hk, hx, hy, h4, h6⟩
      · rw [tvl_0 hk h3] at hRt ⊢
        exact Or.inl hRt
      · rw [tvl_2 hV hk hx hy (by omega) (by omega) h4 h5 h6 h7] at hRt ⊢
        rcases h3 with rfl | rfl | ⟨rfl | rfl, -⟩
        · exact Or.inl hRt
        · exact Or.inl hRt
        · exact Or.inl hRt
        · exact Or.inl hRt
      · rw [tvl_1 hV hk hx hy (by omega) (by omega) h4 h6] at hRt ⊢
        rcases h3 with rfl | ⟨rfl, -⟩
        · exact Or.inl hRt
        · exact Or.inl hRt
    rw [isB_T hm]
    rfl
/-- what was judged of the row l holds -/
def mJd (σ : kS) (n b : Nat) (l : rwT) : Prop := (σ 232 50 = -1 ∨ ∃ r0, r0 ≤ l.length ∧ σ 232 50 = nI r0) ∧ (σ 232 50 = nI l.length → ∃ j, σ 232 49 = nI j ∧ 200 ≤ j ∧ j ≤ b ∧ ∀ t, mv n b t → t < j → σ 272 t = isB (mMk σ l t))
def cmS (σ : kS) (M o : Nat → Int32) : kS := va_up (va_up σ 272 M) 232 o
theorem isB_01 (P : Prop) : isB P = 0 ∨ isB P = 1 := by
  by_cases hp : P
  · exact Or.inr (isB_T hp)
  · exact Or.inl (isB_F hp)
set_option maxRecDepth 100000 in
set_option maxHeartbeats 4000000 in
theorem mr_canMake (L : Nat) (xs : Nat → Int32) (d : Nat) (σ : kS) (n b : Nat) (l : rwT) (t : Nat) (h : mTb σ n b) (hq : mRq σ (mvG σ n b) l) (hj : mJd σ n b l) (ht : mv n b t) : kXM kT L xs (d + 4) 182 [.ref 232, .int (nI t)] σ (fun r σ' => r = some (.int (isB (mMk σ l t))) ∧ ∃ M, σ' = cmS σ M (upd (upd (σ 232) 49 (nI b)) 50 (nI l.length)) ∧ mJd σ' n b l) := by
  have hn := h.1
  have hb2 := h.2.1
  have hb := h.2.2.1
  have hl := mRq_len hq
  have ht1 : t < 1000 := by unfold mv at ht; omega
  have hend : ∀ q : Nat × (Nat → Int32), (200 ≤ q.1 ∧ q.1 ≤ b ∧ ∀ u, mv n b u → u < q.1 → q.2 u = isB (mMk σ l u)) → kX kT L xs (d + 4) 182 53 [(0, .ref 232), (1, .int (nI t))] [] (cmS σ q.2 (upd (upd (σ 232) 49 (nI q.1)) 50 (nI l.length))) (fun r σ' => r = some (.int (isB (mMk σ l t))) ∧ ∃ M, σ' = cmS σ M (upd (upd (σ 232) 49 (nI b)) 50 (nI l.length)) ∧ mJd σ' n b l) := by
    refine kX_while (fun q : Nat × (Nat → Int32) => [(0, .ref 232), (1, .int (nI t))]) (fun q => cmS σ q.2 (upd (upd (σ 232) 49 (nI q.1)) 50 (nI l.length))) _ (fun q => b - q.1) ?_
    rintro ⟨j, M⟩ ⟨h1, h2, h3⟩ ih
    dsimp only at h1 h2 h3 ih ⊢
    iterate 4 (refine kX_one rfl ?_)
    refine kX_top (h.2.2.2.2.1) ?_
    repeat refine kX_one rfl ?_
    refine kX_if (fun q => ?_) (fun q => ?_)
    · have q := qge q j b
      obtain rfl : j = b := by omega
      repeat refine kX_one rfl ?_
      refine kX_baldN rfl rfl (by decide) (t) (by first | rfl | decide) (ht1) ?_
      rw [show cmS σ M (upd (upd (σ 232) 49 (nI j)) 50 (nI l.length)) 272 t = isB (mMk σ l t) from h3 t ht (by unfold mv at ht; omega)]
      refine kX_ret (i := .ireturn) (len := 1) rfl (Or.inr rfl) (jend_b rfl (isB_01 _)) (⟨rfl, M, rfl, Or.inr ⟨l.length, Nat.le_refl _, rfl⟩, fun _ => ⟨j, rfl, h1, Nat.le_refl _, h3⟩⟩)
    · have q := qgeF q j b
      repeat refine kX_one rfl ?_
      refine kX_cal (mr_isMade L xs d _ n b l j (show mTb (cmS σ M (upd (upd (σ 232) 49 (nI j)) 50 (nI l.length))) n b from h) (show mRq (cmS σ M (upd (upd (σ 232) 49 (nI j)) 50 (nI l.length))) (mvG σ n b) l from hq) (Or.inr ⟨h1, q⟩) (fun x hx hv => h3 x hv hx)) rfl (Or.inr rfl) rfl rfl rfl (fun r1 σ1 q1 => ?_)
      obtain ⟨rfl, rfl⟩ := q1
      refine kX_bastN rfl rfl (by decide) (j) (by first | rfl | decide) (by omega) (isB_01 _) ?_
      iterate 7 (refine kX_one rfl ?_)
      have := ih (j + 1, upd M j (isB (mMk σ l j))) ⟨by omega, by simp only; omega, fun u hu hlt => by
        simp only at hlt ⊢
        by_cases e : u = j
        · subst e
          exact pk_us
        · rw [pk_un e]
          exact h3 u hu (by omega)⟩ (by simp only; omega)
      refine kX_st _ ?_ this
      rw [← nI_1]
      funext c; unfold cmS; first
        | ((repeat (refine va_case ?_ ?_; (· (intro h; first | (subst h; rfl) | (unfold va_up; repeat' split; (all_goals first | rfl | omega | (subst_vars; rfl) | (funext j; unfold upd; repeat' split; all_goals first | rfl | omega | (subst_vars; rfl)))))); intro h)); (repeat (refine va_case2 ?_ ?_; (· (intro h; first | exact absurd h (by assumption) | (subst h; rfl) | (subst h; funext j; unfold upd; repeat' split; (all_goals first | rfl | omega | (subst_vars; rfl))))); intro h)); rfl)
        | (unfold va_up; repeat' split
           all_goals first | rfl | omega | (subst_vars; rfl) | (funext j; unfold upd; repeat' split; all_goals first | rfl | omega | (subst_vars; rfl)))
  unfold kXM
  iterate 4 (refine kX_one rfl ?_)
  refine kX_top (hq.1) ?_
  repeat refine kX_one rfl ?_
  refine kX_if (fun q => ?_) (fun q => ?_)
  · have q := qeq q
    obtain ⟨j, j1, j2, j3, j4⟩ := hj.2 q
    have := hend (j, σ 272) ⟨j2, j3, j4⟩
    refine kX_st _ ?_ this
    have e : upd (upd (σ 232) 49 (nI j)) 50 (nI l.length) = σ 232 := by
      funext z
      unfold upd
      split
      · next e => rw [e]; exact q.symm
      · split
        · next e => rw [e]; exact j1.symm
        · rfl
    rw [e]
    funext c; unfold cmS va_up; repeat' split
    all_goals first | rfl | (next e => rw [e])
  · iterate 2 (refine kX_one rfl ?_)
    have loop := kX_while (T := kT) (L := L) (xs := xs) (d := d + 4) (mi := 182) (pc := 13) (Q := fun r σ' => r = some (.int (isB (mMk σ l t))) ∧ ∃ M, σ' = cmS σ M (upd (upd (σ 232) 49 (nI b)) 50 (nI l.length)) ∧ mJd σ' n b l)
      (fun q : Nat × (Nat → Int32) => [(2, .int (nI q.1)), (0, .ref 232), (1, .int (nI t))]) (fun q => va_up σ 272 q.2) (fun q => q.1 ≤ n ∧ ∀ u, u < q.1 → q.2 u = isB (mMk σ l u)) (fun q => n - q.1) ?_ (0, σ 272) ⟨Nat.zero_le _, fun u hu => absurd hu (Nat.not_lt_zero u)⟩
    · rw [kup_self] at loop
      exact loop
    · rintro ⟨k, M⟩ ⟨h1, h2⟩ ih
      dsimp only at h1 h2 ih ⊢
      iterate 3 (refine kX_one rfl ?_)
      refine kX_top (h.2.2.2.1) ?_
      repeat refine kX_one rfl ?_
      refine kX_if (fun q => ?_) (fun q => ?_)
      · have q := qge q k n
        obtain rfl : k = n := by omega
        iterate 6 (refine kX_one rfl ?_)
        refine kX_top (hq.1) ?_
        iterate 1 (refine kX_one rfl ?_)
        have := hend (200, M) ⟨Nat.le_refl _, hb2, fun u hu hlt => h2 u (by unfold mv at hu; simp only at hlt; omega)⟩
        refine kX_to _ _ rfl rfl rfl ?_ this
        funext c; unfold cmS; first
          | ((repeat (refine va_case ?_ ?_; (· (intro h; first | (subst h; rfl) | (unfold va_up; repeat' split; (all_goals first | rfl | omega | (subst_vars; rfl) | (funext j; unfold upd; repeat' split; all_goals first | rfl | omega | (subst_vars; rfl)))))); intro h)); (repeat (refine va_case2 ?_ ?_; (· (intro h; first | exact absurd h (by assumption) | (subst h; rfl) | (subst h; funext j; unfold upd; repeat' split; (all_goals first | rfl | omega | (subst_vars; rfl))))); intro h)); rfl)
          | (unfold va_up; repeat' split
             all_goals first | rfl | omega | (subst_vars; rfl) | (funext j; unfold upd; repeat' split; all_goals first | rfl | omega | (subst_vars; rfl)))
      · have q := qgeF q k n
        repeat refine kX_one rfl ?_
        refine kX_cal (mr_isMade L xs d _ n b l k (show mTb (va_up σ 272 M) n b from h) (show mRq (va_up σ 272 M) (mvG σ n b) l from hq) (Or.inl q) (fun x hx hv => h2 x hx)) rfl (Or.inr rfl) rfl rfl rfl (fun r1 σ1 q1 => ?_)
        obtain ⟨rfl, rfl⟩ := q1
        refine kX_bastN rfl rfl (by decide) (k) (by first | rfl | decide) (by omega) (isB_01 _) ?_
        iterate 2 (refine kX_one rfl ?_)
        rw [kup_up]
        have := ih (k + 1, upd M k (isB (mMk σ l k))) ⟨q, fun u hlt => by
          simp only at hlt ⊢
          by_cases e : u = k
          · subst e
            exact pk_us
          · rw [pk_un e]
            exact h2 u (by omega)⟩ (by simp only; omega)
        rw [← nI_1] at this
        exact this
end
section
/-! the reference: the row taken apart -/
def rwS (σ : kS) (Mk I R H M o : Nat → Int32) : kS := va_up (va_up (va_up (va_up (va_up (va_up σ 272 Mk) 271 I) 268 R) 269 H) 270 M) 232 o
theorem rwS_of {σ τ : kS} (h : ∀ c, c ≠ 272 → c ≠ 271 → c ≠ 268 → c ≠ 269 → c ≠ 270 → c ≠ 232 → τ c = σ c) : τ = rwS σ (τ 272) (τ 271) (τ 268) (τ 269) (τ 270) (τ 232) := by
  funext c
  unfold rwS va_up
  repeat' split
  all_goals first | (next e => rw [e]) | skip
  next h1 h2 h3 h4 h5 h6 => exact h c h6 h5 h4 h3 h2 h1
theorem rwS_rwS (σ : kS) (a b c d e f a' b' c' d' e' f' : Nat → Int32) : rwS (rwS σ a b c d e f) a' b' c' d' e' f' = rwS σ a' b' c' d' e' f' :=
  rwS_of (σ := σ) (τ := rwS (rwS σ a b c d e f) a' b' c' d' e' f') (fun c h1 h2 h3 h4 h5 h6 => by
    simp [rwS, va_up, h1, h2, h3, h4, h5, h6])
/-- nothing else has changed but the row and what was judged -/
def rwF (σ τ : kS) : Prop := (∃ Mk I R H M o, τ = rwS σ Mk I R H M o) ∧ ∀ j, j ≠ 49 → j ≠ 50 → j ≠ 46 → τ 232 j = σ 232 j
theorem rwF_refl (σ : kS) : rwF σ σ := ⟨⟨_, _, _, _, _, _, rwS_of (fun _ _ _ _ _ _ _ => rfl)⟩, fun _ _ _ _ => rfl⟩
theorem rwF_trans {σ τ ρ : kS} (h1 : rwF σ τ) (h2 : rwF τ ρ) : rwF σ ρ := by
  obtain ⟨⟨a, b, c, d, e, f, rfl⟩, g1⟩ := h1
  obtain ⟨⟨a', b', c', d', e', f', rfl⟩, g2⟩ := h2
  exact ⟨⟨a', b', c', d', e', f', rwS_rwS _ _ _ _ _ _ _ _ _ _ _ _ _⟩, fun j h1 h2 h3 => (g2 j h1 h2 h3).trans (g1 j h1 h2 h3)⟩
theorem rwF_mRu {σ : kS} {I R H M : Nat → Int32} {x : Int32} : rwF σ (mRu σ I R H M (upd (σ 232) 46 x)) := by
  refine ⟨⟨σ 272, I, R, H, M, upd (σ 232) 46 x, ?_⟩, fun j _ _ h3 => ?_⟩
  · funext c; unfold mRu rwS; first
      | ((repeat (refine va_case ?_ ?_; (· (intro h; first | (subst h; rfl) | (unfold va_up; repeat' split; (all_goals first | rfl | omega | (subst_vars; rfl) | (funext j; unfold upd; repeat' split; all_goals first | rfl | omega | (subst_vars; rfl)))))); intro h)); (repeat (refine va_case2 ?_ ?_; (· (intro h; first | exact absurd h (by assumption) | (subst h; rfl) | (subst h; funext j; unfold upd; repeat' split; (all_goals first | rfl | omega | (subst_vars; rfl))))); intro h)); rfl)
      | (unfold va_up; repeat' split
         all_goals first | rfl | omega | (subst_vars; rfl) | (funext j; unfold upd; repeat' split; all_goals first | rfl | omega | (subst_vars; rfl)))
  · show upd (σ 232) 46 x j = _
    exact pk_un h3
theorem rwF_cmS {σ : kS} {M : Nat → Int32} {x y : Int32} : rwF σ (cmS σ M (upd (upd (σ 232) 49 x) 50 y)) := by
  refine ⟨⟨M, σ 271, σ 268, σ 269, σ 270, upd (upd (σ 232) 49 x) 50 y, ?_⟩, fun j h1 h2 _ => ?_⟩
  · funext c; unfold cmS rwS; first
      | ((repeat (refine va_case ?_ ?_; (· (intro h; first | (subst h; rfl) | (unfold va_up; repeat' split; (all_goals first | rfl | omega | (subst_vars; rfl) | (funext j; unfold upd; repeat' split; all_goals first | rfl | omega | (subst_vars; rfl)))))); intro h)); (repeat (refine va_case2 ?_ ?_; (· (intro h; first | exact absurd h (by assumption) | (subst h; rfl) | (subst h; funext j; unfold upd; repeat' split; (all_goals first | rfl | omega | (subst_vars; rfl))))); intro h)); rfl)
      | (unfold va_up; repeat' split
         all_goals first | rfl | omega | (subst_vars; rfl) | (funext j; unfold upd; repeat' split; all_goals first | rfl | omega | (subst_vars; rfl)))
  · show upd (upd (σ 232) 49 x) 50 y j = _
    rw [pk_un h2, pk_un h1]
theorem rwF_Tb {σ τ : kS} {n b : Nat} (h : rwF σ τ) (hT : mTb σ n b) : mTb τ n b := by
  obtain ⟨⟨Mk, I, R, H, M, o, rfl⟩, g⟩ := h
  obtain ⟨h1, h2, h3, h4, h5, h6⟩ := hT
  exact ⟨h1, h2, h3, (g _ (by decide) (by decide) (by decide)).trans h4, (g _ (by decide) (by decide) (by decide)).trans h5, h6⟩
theorem rwA_len {l : rwT} {t : Nat} {w p : Int32} : rwA l t w p = l ∨ rwA l t w p = l ++ [(t, w, p)] := by
  unfold rwA
  split
  · exact Or.inl rfl
  · exact Or.inr rfl
/-- what was judged of a shorter row says nothing of a longer one -/
theorem mJd_comes {σ : kS} {n b : Nat} {l : rwT} {I R H M : Nat → Int32} {t : Nat} {w p : Int32} (hl : l.length ≤ 1000) (h : mJd σ n b l) : mJd (mRu σ I R H M (upd (σ 232) 46 (nI (rwA l t w p).length))) n b (rwA l t w p) := by
  rcases rwA_len (l := l) (t := t) (w := w) (p := p) with e | e
  · rw [e]
    exact h
  · rw [e]
    refine ⟨?_, fun q => ?_⟩
    · rcases h.1 with h1 | ⟨r0, h1, h2⟩
      · exact Or.inl h1
      · exact Or.inr ⟨r0, by rw [List.length_append]; omega, h2⟩
    · exfalso
      rw [List.length_append] at q
      have q' : σ 232 50 = nI (l.length + 1) := q
      rcases h.1 with h1 | ⟨r0, h1, h2⟩
      · rw [h1] at q'
        exact nI_m1 (by omega) q'.symm
      · rw [h2] at q'
        have := nI_inj q'
        omega
noncomputable def cit {α : Type} (P : Prop) (a b : α) : α := @ite _ P (Classical.propDecidable P) a b
theorem cit_T {α : Type} {P : Prop} {a b : α} (h : P) : cit P a b = a := by unfold cit; exact if_pos h
theorem cit_F {α : Type} {P : Prop} {a b : α} (h : ¬ P) : cit P a b = b := by unfold cit; exact if_neg h
/-- the PRIVATE of an AGENT is had -/
def mHp (σ : kS) (l : rwT) (y : Nat) : Prop := vnh (σ 238) (.arg y) ∨ mR σ l (.length (.arg y))
noncomputable def tkT (σ : kS) (l : rwT) (p t : Nat) : rwT := if σ 233 t = nI 4 then rwA (rwA l (fN (σ 234 t)) (nI 2) (nI p)) (fN (σ 235 t)) (nI 3) (nI p)
  else if σ 233 t = nI 5 then cit (mMk σ l (fN (σ 235 t))) (rwA l (fN (σ 234 t)) (nI 4) (nI p)) l
  else if σ 233 t = nI 6 then cit (mHp σ l (fN (σ 235 t))) (rwA l (fN (σ 234 t)) (nI 5) (nI p)) l
  else if σ 233 t = nI 8 then rwA l (fN (σ 234 t)) (nI 6) (nI p) else l
/-- place p of the row l is taken apart -/
noncomputable def tkR (σ : kS) (l : rwT) (p : Nat) : rwT := match l[p]? with
  | some q => tkT σ l p q.1
  | none => l
set_option maxRecDepth 100000 in
set_option maxHeartbeats 4000000 in
theorem mr_takeApart (L : Nat) (xs : Nat → Int32) (d : Nat) (σ : kS) (n b : Nat) (l : rwT) (p : Nat) (h : mTb σ n b) (hq : mRq σ (mvG σ n b) l) (hj : mJd σ n b l) (hp : p < l.length) : kXM kT L xs (d + 5) 184 [.ref 232, .int (nI p)] σ (fun r σ' => r = none ∧ rwF σ σ' ∧ mRq σ' (mvG σ n b) (tkR σ l p) ∧ mJd σ' n b (tkR σ l p)) := by
  have hn := h.1
  have hb := h.2.2.1
  have hV := h.2.2.2.2.2.1.1
  have hl := mRq_len hq
  have h1000 : ∀ x, mv n b x → x < 1000 := fun x q => by unfold mv at q; omega
  obtain ⟨t, ht⟩ : ∃ t, (l[p]'hp).1 = t := ⟨_, rfl⟩
  have hR : tkR σ l p = tkT σ l p t := by
    unfold tkR
    rw [List.getElem?_eq_getElem hp]
    rw [← ht]
  have hrow : σ 268 p = nI t := by rw [← ht]; exact (hq.2.1 p hp).1
  have htv : mvG σ n b t := hq.2.2.1 t ⟨l[p]'hp, List.getElem_mem hp, ht⟩
  have ht1 := h1000 t htv.1
  rw [hR]
  /- one that comes -/
  have hcome : ∀ (τ : kS) (l1 : rwT) (x : Nat) (w : Int32) (pc : Nat) (lv : jL), rwF σ τ → mRq τ (mvG σ n b) l1 → mJd τ n b l1 → mvG σ n b x → kXM kT L xs (d + 4) 178 [.ref 232, .int (nI x), .int w, .int (nI p)] τ (fun r σ' => r = none ∧ rwF σ σ' ∧ mRq σ' (mvG σ n b) (rwA l1 x w (nI p)) ∧ mJd σ' n b (rwA l1 x w (nI p))) := by
    intro τ l1 x w _ _ f1 f2 f3 f4
    refine kX_post (mr_comes L xs (d + 3) τ (mvG σ n b) l1 x w (nI p) f2 (h1000 x f4.1) f4) ?_
    rintro r σ' ⟨rfl, g1, I, R, H, M, rfl⟩
    exact ⟨rfl, rwF_trans f1 rwF_mRu, g1, mJd_comes (mRq_len f2) f3⟩
  unfold kXM
  repeat refine kX_one rfl ?_
  refine kX_ialdV rfl rfl (by decide) (p) (by first | rfl | decide) (by omega) (hrow) ?_
  repeat refine kX_one rfl ?_
  refine kX_ialdN rfl rfl (by decide) (t) (by first | rfl | decide) (ht1) ?_
  rcases (hV t htv.1).2 with ⟨k, h3, hk, -, -⟩ | ⟨k, x, y, h3, hk, hx, hy, h4, h5, h6, h7⟩ | ⟨k, x, h3, hk, hx, hy, h4, h6⟩
  · have e : tkT σ l p t = l := by
      unfold tkT
      rw [hk]
      rw [if_neg (nI_ne (by omega)), if_neg (nI_ne (by omega)), if_neg (nI_ne (by omega)), if_neg (nI_ne (by omega))]
    rw [e]
    refine kX_top (hk) ?_
    obtain rfl | rfl | rfl | rfl : k = 0 ∨ k = 1 ∨ k = 2 ∨ k = 3 := by omega
    all_goals (repeat refine kX_one rfl ?_)
    all_goals exact kX_ret (i := .return_) (len := 1) rfl (Or.inr rfl) rfl ⟨rfl, rwF_refl σ, hq, hj⟩
  · have hg := htv.2
    rw [tgd_2 hV hk hx hy (by omega) (by omega) h4 h5 h6 h7, Bool.and_eq_true] at hg
    have hxv : mvG σ n b x := ⟨h6, hg.1⟩
    have hyv : mvG σ n b y := ⟨h7, hg.2⟩
    have hx1 := h1000 x h6
    have hy1 := h1000 y h7
    have ex : fN (σ 234 t) = x := by rw [hx]; exact fN_nI (by omega)
    have ey : fN (σ 235 t) = y := by rw [hy]; exact fN_nI (by omega)
    refine kX_top (hk) ?_
    rcases h3 with rfl | rfl | ⟨h3, hag⟩
    · have e : tkT σ l p t = rwA (rwA l x (nI 2) (nI p)) y (nI 3) (nI p) := by
        unfold tkT
        rw [if_pos hk, ex, ey]
      rw [e]
      repeat refine kX_one rfl ?_
      refine kX_ialdV rfl rfl (by decide) (t) (by first | rfl | decide) (ht1) (hx) ?_
      repeat refine kX_one rfl ?_
      refine kX_cal (hcome σ l x (nI 2) 0 [] (rwF_refl σ) hq hj hxv) rfl (Or.inr rfl) rfl rfl rfl (fun r1 σ1 q1 => ?_)
      obtain ⟨rfl, f1, f2, f3⟩ := q1
      have hy' : σ1 235 t = nI y := by
        obtain ⟨⟨_, _, _, _, _, _, rfl⟩, -⟩ := f1
        exact hy
      repeat refine kX_one rfl ?_
      refine kX_ialdV rfl rfl (by decide) (t) (by first | rfl | decide) (ht1) (hy') ?_
      repeat refine kX_one rfl ?_
      refine kX_cal (hcome σ1 _ y (nI 3) 0 [] f1 f2 f3 hyv) rfl (Or.inr rfl) rfl rfl rfl (fun r1 σ2 q1 => ?_)
      obtain ⟨rfl, q1⟩ := q1
      repeat refine kX_one rfl ?_
      refine kX_ret (i := .return_) (len := 1) rfl (Or.inr rfl) rfl (⟨rfl, q1⟩)
    · have e : tkT σ l p t = cit (mMk σ l y) (rwA l x (nI 4) (nI p)) l := by
        unfold tkT
        rw [if_neg (by rw [hk]; decide), if_pos hk, ex, ey]
      rw [e]
      repeat refine kX_one rfl ?_
      refine kX_ialdV rfl rfl (by decide) (t) (by first | rfl | decide) (ht1) (hx) ?_
      refine kX_baldV rfl rfl (by decide) (x) (by first | rfl | decide) (hx1) (hq.2.2.2.1 x hx1) ?_
      repeat refine kX_one rfl ?_
      refine kX_if (fun q => ?_) (fun q => ?_)
      · have q := isB_ne.mp (qne q)
        have e2 : cit (mMk σ l y) (rwA l x (nI 4) (nI p)) l = l := by
          by_cases hm : mMk σ l y
          · rw [cit_T hm]
            exact if_pos q
          · exact cit_F hm
        rw [e2]
        refine kX_ret (i := .return_) (len := 1) rfl (Or.inr rfl) rfl (⟨rfl, rwF_refl σ, hq, hj⟩)
      · repeat refine kX_one rfl ?_
        refine kX_ialdV rfl rfl (by decide) (t) (by first | rfl | decide) (ht1) (hy) ?_
        refine kX_cal (mr_canMake L xs d σ n b l y h hq hj h7) rfl (Or.inr rfl) rfl rfl rfl (fun r1 σ1 q1 => ?_)
        obtain ⟨rfl, M, rfl, f3⟩ := q1
        repeat refine kX_one rfl ?_
        refine kX_if (fun q2 => ?_) (fun q2 => ?_)
        · have q2 : ¬ mMk σ l y := fun z => isB_ne.mpr z (qeq q2)
          rw [cit_F q2]
          refine kX_ret (i := .return_) (len := 1) rfl (Or.inr rfl) rfl (⟨rfl, rwF_cmS, hq, f3⟩)
        · have q2 := isB_ne.mp (qeqF q2)
          rw [cit_T q2]
          repeat refine kX_one rfl ?_
          refine kX_ialdV rfl rfl (by decide) (t) (by first | rfl | decide) (ht1) (hx) ?_
          repeat refine kX_one rfl ?_
          refine kX_cal (hcome _ l x (nI 4) 0 [] rwF_cmS hq f3 hxv) rfl (Or.inr rfl) rfl rfl rfl (fun r1 σ2 q1 => ?_)
          obtain ⟨rfl, q1⟩ := q1
          repeat refine kX_one rfl ?_
          refine kX_ret (i := .return_) (len := 1) rfl (Or.inr rfl) rfl (⟨rfl, q1⟩)
    · have hy0 : σ 233 y = nI 0 := by
        rcases hag.2 with e | ⟨e, -⟩
        · exact e
        · rw [tgd_0 e (by decide)] at hg
          exact absurd rfl (of_decide_eq_true hg.2)
      rcases h3 with rfl | rfl
      · have e : tkT σ l p t = cit (mHp σ l y) (rwA l x (nI 5) (nI p)) l := by
          unfold tkT
          rw [if_neg (by rw [hk]; decide), if_neg (by rw [hk]; decide), if_pos hk, ex, ey]
        rw [e]
        repeat refine kX_one rfl ?_
        refine kX_ialdV rfl rfl (by decide) (t) (by first | rfl | decide) (ht1) (hy) ?_
        refine kX_cal (mr_hasPrivate L xs (d + 2) σ n b l y h hq hag.1 hy0) rfl (Or.inr rfl) rfl rfl rfl (fun r1 σ1 q1 => ?_)
        obtain ⟨rfl, rfl⟩ := q1
        repeat refine kX_one rfl ?_
        refine kX_if (fun q2 => ?_) (fun q2 => ?_)
        · have q2 : ¬ mHp σ l y := fun z => isB_ne.mpr z (qeq q2)
          rw [cit_F q2]
          refine kX_ret (i := .return_) (len := 1) rfl (Or.inr rfl) rfl (⟨rfl, rwF_refl σ, hq, hj⟩)
        · have q2 : mHp σ l y := isB_ne.mp (qeqF q2)
          rw [cit_T q2]
          repeat refine kX_one rfl ?_
          refine kX_ialdV rfl rfl (by decide) (t) (by first | rfl | decide) (ht1) (hx) ?_
          repeat refine kX_one rfl ?_
          refine kX_cal (hcome σ l x (nI 5) 0 [] (rwF_refl σ) hq hj hxv) rfl (Or.inr rfl) rfl rfl rfl (fun r1 σ2 q1 => ?_)
          obtain ⟨rfl, q1⟩ := q1
          repeat refine kX_one rfl ?_
          refine kX_ret (i := .return_) (len := 1) rfl (Or.inr rfl) rfl (⟨rfl, q1⟩)
      · have e : tkT σ l p t = rwA l x (nI 6) (nI p) := by
          unfold tkT
          rw [if_neg (by rw [hk]; decide), if_neg (by rw [hk]; decide), if_neg (by rw [hk]; decide), if_pos hk, ex]
        rw [e]
        repeat refine kX_one rfl ?_
        refine kX_ialdV rfl rfl (by decide) (t) (by first | rfl | decide) (ht1) (hx) ?_
        repeat refine kX_one rfl ?_
        refine kX_cal (hcome σ l x (nI 6) 0 [] (rwF_refl σ) hq hj hxv) rfl (Or.inr rfl) rfl rfl rfl (fun r1 σ2 q1 => ?_)
        obtain ⟨rfl, q1⟩ := q1
        repeat refine kX_one rfl ?_
        refine kX_ret (i := .return_) (len := 1) rfl (Or.inr rfl) rfl (⟨rfl, q1⟩)
  · have e : tkT σ l p t = l := by
      unfold tkT
      rw [hk]
      rw [if_neg (nI_ne (by omega)), if_neg (nI_ne (by omega)), if_neg (nI_ne (by omega)), if_neg (nI_ne (by omega))]
    rw [e]
    refine kX_top (hk) ?_
    rcases h3 with rfl | ⟨rfl, -⟩
    all_goals (repeat refine kX_one rfl ?_)
    all_goals exact kX_ret (i := .return_) (len := 1) rfl (Or.inr rfl) rfl ⟨rfl, rwF_refl σ, hq, hj⟩
end
section
/-! the reference: the row from its beginning to its end -/
noncomputable def psR (σ : kS) : Nat → Nat → rwT → rwT
  | 0, _, l => l
  | f + 1, p, l => if p < l.length then psR σ f (p + 1) (tkR σ l p) else l
noncomputable def enR (σ : kS) : Nat → rwT → rwT
  | 0, l => l
  | f + 1, l => if l.length < (psR σ 1001 0 l).length then enR σ f (psR σ 1001 0 l) else psR σ 1001 0 l
theorem tkR_len (σ : kS) (l : rwT) (p : Nat) : l.length ≤ (tkR σ l p).length := by
  have hA : ∀ (l : rwT) t w q, l.length ≤ (rwA l t w q).length := fun l t w q => by
    rcases rwA_len (l := l) (t := t) (w := w) (p := q) with e | e
    · rw [e]
      exact Nat.le_refl _
    · rw [e, List.length_append]
      omega
  unfold tkR
  split
  · unfold tkT cit
    repeat' split
    all_goals first | exact Nat.le_refl _ | exact hA _ _ _ _ | exact Nat.le_trans (hA _ _ _ _) (hA _ _ _ _)
  · exact Nat.le_refl _
theorem psR_len (σ : kS) : ∀ (f p : Nat) (l : rwT), l.length ≤ (psR σ f p l).length
  | 0, _, _ => Nat.le_refl _
  | f + 1, p, l => by
    unfold psR
    split
    · exact Nat.le_trans (tkR_len σ l p) (psR_len σ f (p + 1) _)
    · exact Nat.le_refl _
/-- the row's functions hang on the table alone -/
theorem rwF_tkR {σ τ : kS} (h : rwF σ τ) (l : rwT) (p : Nat) : tkR τ l p = tkR σ l p := by
  obtain ⟨⟨_, _, _, _, _, _, rfl⟩, -⟩ := h
  rfl
theorem rwF_mvG {σ τ : kS} (h : rwF σ τ) (n b : Nat) : mvG τ n b = mvG σ n b := by
  obtain ⟨⟨_, _, _, _, _, _, rfl⟩, -⟩ := h
  rfl
set_option maxRecDepth 100000 in
set_option maxHeartbeats 4000000 in
theorem mr_endRow (L : Nat) (xs : Nat → Int32) (d : Nat) (σ : kS) (n b : Nat) (l : rwT) (h : mTb σ n b) (hq : mRq σ (mvG σ n b) l) (hj : mJd σ n b l) : kXM kT L xs (d + 6) 183 [.ref 232] σ (fun r σ' => r = none ∧ rwF σ σ' ∧ mRq σ' (mvG σ n b) (enR σ 1001 l) ∧ mJd σ' n b (enR σ 1001 l)) := by
  unfold kXM
  /- one time through -/
  have inner : ∀ (l0 : rwT) (τ0 : kS) (Q : Option Value → kS → Prop), rwF σ τ0 → mRq τ0 (mvG σ n b) l0 → mJd τ0 n b l0 →
      (∀ τ, rwF σ τ → mRq τ (mvG σ n b) (psR σ 1001 0 l0) → mJd τ n b (psR σ 1001 0 l0) → kX kT L xs (d + 6) 183 32 [(0, .ref 232), (2, .int (nI l0.length))] [] τ Q) →
      kX kT L xs (d + 6) 183 13 [(3, .int (nI 0)), (2, .int (nI l0.length)), (0, .ref 232)] [] τ0 Q := by
    intro l0 τ0 Q i1 i2 i3 he
    refine kX_while (fun q : Nat × rwT × kS => [(3, .int (nI q.1)), (2, .int (nI l0.length)), (0, .ref 232)]) (fun q => q.2.2) (fun q => q.1 ≤ q.2.1.length ∧ rwF σ q.2.2 ∧ mRq q.2.2 (mvG σ n b) q.2.1 ∧ mJd q.2.2 n b q.2.1 ∧ psR σ (1001 - q.1) q.1 q.2.1 = psR σ 1001 0 l0) (fun q => 1001 - q.1) ?_ (0, l0, τ0) ⟨Nat.zero_le _, i1, i2, i3, rfl⟩
    rintro ⟨p, l1, τ⟩ ⟨j1, j2, j3, j4, j5⟩ ih
    dsimp only at j1 j2 j3 j4 j5 ih ⊢
    have hl1 := mRq_len j3
    iterate 3 (refine kX_one rfl ?_)
    refine kX_top (j3.1) ?_
    repeat refine kX_one rfl ?_
    refine kX_if (fun q => ?_) (fun q => ?_)
    · have q := qge q p l1.length
      have e : psR σ (1001 - p) p l1 = l1 := by
        rw [show 1001 - p = (1000 - p) + 1 by omega]
        unfold psR
        rw [if_neg (by omega)]
      rw [e] at j5
      subst j5
      refine kX_lv ([(0, .ref 232), (2, .int (nI l0.length))]) rfl rfl rfl ?_
      exact he τ j2 j3 j4
    · have q := qgeF q p l1.length
      have e : psR σ (1001 - p) p l1 = psR σ (1001 - (p + 1)) (p + 1) (tkR σ l1 p) := by
        rw [show 1001 - p = (1001 - (p + 1)) + 1 by omega, psR, if_pos q]
      rw [e] at j5
      repeat refine kX_one rfl ?_
      have hG := rwF_mvG j2 n b
      refine kX_cal (mr_takeApart L xs d τ n b l1 p (rwF_Tb j2 h) (by rw [hG]; exact j3) j4 q) rfl (Or.inr rfl) rfl rfl rfl (fun r1 σ1 q1 => ?_)
      obtain ⟨rfl, f1, f2, f3⟩ := q1
      rw [rwF_tkR j2] at f2 f3
      rw [hG] at f2
      iterate 2 (refine kX_one rfl ?_)
      have := ih (p + 1, tkR σ l1 p, σ1) ⟨by have := tkR_len σ l1 p; simp only; omega, rwF_trans j2 f1, f2, f3, j5⟩ (by simp only; omega)
      rw [← nI_1] at this
      exact this
  iterate 2 (refine kX_one rfl ?_)
  refine kX_lv [(1, .int (isB True)), (0, .ref 232)] rfl rfl (by rw [isB_T trivial]; rfl) ?_
  refine kX_while (fun q : Prop × Nat × rwT × kS => [(1, .int (isB q.1)), (0, .ref 232)]) (fun q => q.2.2.2) (fun q => rwF σ q.2.2.2 ∧ mRq q.2.2.2 (mvG σ n b) q.2.2.1 ∧ mJd q.2.2.2 n b q.2.2.1 ∧ ((¬ q.1 ∧ q.2.2.1 = enR σ 1001 l) ∨ (q.1 ∧ 0 < q.2.1 ∧ 1001 ≤ q.2.1 + q.2.2.1.length ∧ enR σ q.2.1 q.2.2.1 = enR σ 1001 l))) (fun q => q.2.1) ?_ (True, 1001, l, σ) ⟨rwF_refl σ, hq, hj, Or.inr ⟨trivial, by simp only; omega, by simp only; omega, rfl⟩⟩
  rintro ⟨P, f, l1, τ⟩ ⟨j1, j2, j3, j4⟩ ih
  dsimp only at j1 j2 j3 j4 ih ⊢
  repeat refine kX_one rfl ?_
  refine kX_if (fun q => ?_) (fun q => ?_)
  · have q : ¬ P := fun z => isB_ne.mpr z (qeq q)
    rcases j4 with ⟨-, rfl⟩ | ⟨j4, -⟩
    · refine kX_ret (i := .return_) (len := 1) rfl (Or.inr rfl) rfl (⟨rfl, j1, j2, j3⟩)
    · exact absurd j4 q
  · have q : P := isB_ne.mp (qeqF q)
    rcases j4 with ⟨j4, -⟩ | ⟨-, f0, f1, f2⟩
    · exact absurd q j4
    · have hl1 := mRq_len j2
      iterate 2 (refine kX_one rfl ?_)
      refine kX_top (j2.1) ?_
      iterate 3 (refine kX_one rfl ?_)
      refine kX_lv [(3, .int (nI 0)), (2, .int (nI l1.length)), (0, .ref 232)] rfl rfl rfl ?_
      refine inner l1 τ _ j1 j2 j3 (fun τ2 k1 k2 k3 => ?_)
      have hl2 := mRq_len k2
      obtain ⟨f, rfl⟩ : ∃ g, f = g + 1 := ⟨f - 1, by omega⟩
      have hlen := psR_len σ 1001 0 l1
      rw [enR] at f2
      iterate 2 (refine kX_one rfl ?_)
      refine kX_top (k2.1) ?_
      repeat refine kX_one rfl ?_
      refine kX_if (fun q2 => ?_) (fun q2 => ?_)
      · have q2 := qle q2 (psR σ 1001 0 l1).length l1.length
        rw [if_neg (by omega)] at f2
        iterate 3 (refine kX_one rfl ?_)
        refine kX_lv [(1, .int (isB False)), (0, .ref 232)] rfl rfl (by rw [isB_F id]; rfl) ?_
        exact ih (False, f, psR σ 1001 0 l1, τ2) ⟨k1, k2, k3, Or.inl ⟨id, f2⟩⟩ (by simp only; omega)
      · have q2 := qleF q2 (psR σ 1001 0 l1).length l1.length
        rw [if_pos (by omega)] at f2
        iterate 4 (refine kX_one rfl ?_)
        refine kX_lv [(1, .int (isB True)), (0, .ref 232)] rfl rfl (by rw [isB_T trivial]; rfl) ?_
        exact ih (True, f, psR σ 1001 0 l1, τ2) ⟨k1, k2, k3, Or.inr ⟨trivial, by simp only; omega, by simp only; omega, f2⟩⟩ (by simp only; omega)
end
section
/-! the reference: the row begins -/
theorem cnt_zero {f : Nat → Prop} (h : ∀ t, ¬ f t) : ∀ m, cnt f m = 0
  | 0 => rfl
  | m + 1 => by
    unfold cnt
    rw [cnt_zero h m, if_neg (h m)]
/-- σ without those that have no number -/
def mRl (σ : kS) (hd : Nat → Int32) (jd : Int32) : kS := va_up (va_up σ 242 hd) 232 (upd (upd (σ 232) 10 (nI 200)) 49 jd)
/-- what is known at first -/
def mKn (σ : kS) (n : Nat) (kl : List Nat) : Prop := σ 232 26 = nI kl.length ∧ kl.length ≤ 20 ∧ lst (σ 254) kl ∧ ∀ t ∈ kl, t < n ∧ tgd (σ 233) (σ 234) (σ 235) t = true
noncomputable def knR (kl : List Nat) : rwT := kl.foldl (fun l t => rwA l t (nI 0) (-6)) []
theorem knR_snoc (kl : List Nat) (t : Nat) : knR (kl ++ [t]) = rwA (knR kl) t (nI 0) (-6) := by
  unfold knR
  rw [List.foldl_append]
  rfl
set_option maxRecDepth 100000 in
set_option maxHeartbeats 4000000 in
theorem mr_beginRow (L : Nat) (xs : Nat → Int32) (d : Nat) (σ : kS) (n b : Nat) (kl : List Nat) (h : mTb σ n b) (hk : mKn σ n kl) : kXM kT L xs (d + 2) 179 [.ref 232] σ (fun r σ' => r = none ∧ (∃ hd jd, rwF (mRl σ hd jd) σ' ∧ mTb (mRl σ hd jd) n 200) ∧ mRq σ' (mvG σ n 200) (knR kl) ∧ mJd σ' n 200 (knR kl)) := by
  obtain ⟨k1, k2, k3, k4⟩ := hk
  have hn := h.1
  unfold kXM
  repeat refine kX_one rfl ?_
  refine kX_cal (mr_release L xs d σ n b 200 h (by decide) h.2.1) rfl (Or.inr rfl) rfl rfl rfl (fun r1 σ1 q1 => ?_)
  obtain ⟨rfl, hd, rfl, hT⟩ := q1
  generalize hjd : (if σ 232 49 < nI 200 then σ 232 49 else nI 200) = jd at hT
  have hT' : mTb (mRl σ hd jd) n 200 := by
    have : mRl σ hd jd = mRel σ 200 hd := by unfold mRl mRel; rw [hjd]
    rw [this]
    exact hT
  iterate 8 (refine kX_one rfl ?_)
  refine kX_to [(1, .int (nI 0)), (0, .ref 232)] (va_up (mRl σ hd jd) 232 (upd (upd (mRl σ hd jd 232) 46 (nI 0)) 50 (-1))) rfl rfl rfl ?_ ?_
  · unfold mRl mRel
    rw [hjd]
    funext c; first
      | ((repeat (refine va_case ?_ ?_; (· (intro h; first | (subst h; rfl) | (unfold va_up; repeat' split; (all_goals first | rfl | omega | (subst_vars; rfl) | (funext j; unfold upd; repeat' split; all_goals first | rfl | omega | (subst_vars; rfl)))))); intro h)); (repeat (refine va_case2 ?_ ?_; (· (intro h; first | exact absurd h (by assumption) | (subst h; rfl) | (subst h; funext j; unfold upd; repeat' split; (all_goals first | rfl | omega | (subst_vars; rfl))))); intro h)); rfl)
      | (unfold va_up; repeat' split
         all_goals first | rfl | omega | (subst_vars; rfl) | (funext j; unfold upd; repeat' split; all_goals first | rfl | omega | (subst_vars; rfl)))
  have l1 := kX_while (T := kT) (L := L) (xs := xs) (d := d + 2) (mi := 179) (pc := 19) (Q := fun r σ' => r = none ∧ (∃ hd jd, rwF (mRl σ hd jd) σ' ∧ mTb (mRl σ hd jd) n 200) ∧ mRq σ' (mvG σ n 200) (knR kl) ∧ mJd σ' n 200 (knR kl))
    (fun q : Nat × (Nat → Int32) => [(1, .int (nI q.1)), (0, .ref 232)]) (fun q => va_up (va_up (mRl σ hd jd) 232 (upd (upd (mRl σ hd jd 232) 46 (nI 0)) 50 (-1))) 271 q.2) (fun q => q.1 ≤ 1000 ∧ ∀ t, t < q.1 → q.2 t = 0) (fun q => 1000 - q.1) ?_ (0, σ 271) ⟨Nat.zero_le _, fun t ht => absurd ht (Nat.not_lt_zero t)⟩
  · refine kX_st _ ?_ l1
    funext c; unfold mRl; first
      | ((repeat (refine va_case ?_ ?_; (· (intro h; first | (subst h; rfl) | (unfold va_up; repeat' split; (all_goals first | rfl | omega | (subst_vars; rfl) | (funext j; unfold upd; repeat' split; all_goals first | rfl | omega | (subst_vars; rfl)))))); intro h)); (repeat (refine va_case2 ?_ ?_; (· (intro h; first | exact absurd h (by assumption) | (subst h; rfl) | (subst h; funext j; unfold upd; repeat' split; (all_goals first | rfl | omega | (subst_vars; rfl))))); intro h)); rfl)
      | (unfold va_up; repeat' split
         all_goals first | rfl | omega | (subst_vars; rfl) | (funext j; unfold upd; repeat' split; all_goals first | rfl | omega | (subst_vars; rfl)))
  · rintro ⟨i, f⟩ ⟨i1, i2⟩ ih
    dsimp only at i1 i2 ih ⊢
    repeat refine kX_one rfl ?_
    refine kX_if (fun q => ?_) (fun q => ?_)
    · have q := qge q i 1000
      obtain rfl : i = 1000 := by omega
      iterate 2 (refine kX_one rfl ?_)
      have l2 := kX_while (T := kT) (L := L) (xs := xs) (d := d + 2) (mi := 179) (pc := 41) (Q := fun r σ' => r = none ∧ (∃ hd jd, rwF (mRl σ hd jd) σ' ∧ mTb (mRl σ hd jd) n 200) ∧ mRq σ' (mvG σ n 200) (knR kl) ∧ mJd σ' n 200 (knR kl))
        (fun q : Nat × kS => [(1, .int (nI q.1)), (0, .ref 232)]) (fun q => q.2) (fun q => q.1 ≤ kl.length ∧ rwF (mRl σ hd jd) q.2 ∧ mRq q.2 (mvG σ n 200) (knR (kl.take q.1)) ∧ q.2 232 50 = -1) (fun q => kl.length - q.1) ?_ (0, va_up (va_up (mRl σ hd jd) 232 (upd (upd (mRl σ hd jd 232) 46 (nI 0)) 50 (-1))) 271 f) ⟨Nat.zero_le _, ?_, ?_, rfl⟩
      · refine kX_lv _ rfl rfl ?_ l2
        rfl
      · rintro ⟨i, τ⟩ ⟨j1, j2, j3, j4⟩ ih2
        dsimp only at j1 j2 j3 j4 ih2 ⊢
        have hkn : τ 232 26 = nI kl.length := (j2.2 _ (by decide) (by decide) (by decide)).trans k1
        have hkl : τ 254 = σ 254 := by
          obtain ⟨⟨_, _, _, _, _, _, rfl⟩, -⟩ := j2
          rfl
        iterate 3 (refine kX_one rfl ?_)
        refine kX_top (hkn) ?_
        repeat refine kX_one rfl ?_
        refine kX_if (fun q => ?_) (fun q => ?_)
        · have q := qge q i kl.length
          obtain rfl : i = kl.length := by omega
          rw [List.take_length] at j3
          refine kX_ret (i := .return_) (len := 1) rfl (Or.inr rfl) rfl ⟨rfl, ⟨hd, jd, j2, hT'⟩, j3, Or.inl j4, fun q => ?_⟩
          rw [j4] at q
          exact absurd q.symm (nI_m1 (by have := mRq_len j3; omega))
        · have q := qgeF q i kl.length
          have hki := k4 kl[i] (List.getElem_mem q)
          repeat refine kX_one rfl ?_
          refine kX_ialdV (v := nI kl[i]) rfl rfl (by decide) i rfl (by omega) (by rw [hkl]; exact k3 i q) ?_
          repeat refine kX_one rfl ?_
          refine kX_cal (mr_comes L xs d τ (mvG σ n 200) (knR (kl.take i)) kl[i] (nI 0) (-6) j3 (by omega) ⟨Or.inl hki.1, hki.2⟩) rfl (Or.inr rfl) rfl rfl rfl (fun r1 σ1 q1 => ?_)
          obtain ⟨rfl, f1, I, R, H, M, rfl⟩ := q1
          iterate 2 (refine kX_one rfl ?_)
          have := ih2 (i + 1, mRu τ I R H M (upd (τ 232) 46 (nI (rwA (knR (kl.take i)) kl[i] (nI 0) (-6)).length))) ⟨by simp only; omega, rwF_trans j2 rwF_mRu, by
            simp only
            rw [List.take_succ_eq_append_getElem q, knR_snoc]
            exact f1, j4⟩ (by simp only; omega)
          rw [← nI_1] at this
          exact this
      · show rwF (mRl σ hd jd) (va_up (va_up (mRl σ hd jd) 232 (upd (upd (mRl σ hd jd 232) 46 (nI 0)) 50 (-1))) 271 f)
        refine ⟨⟨σ 272, f, σ 268, σ 269, σ 270, upd (upd (mRl σ hd jd 232) 46 (nI 0)) 50 (-1), ?_⟩, fun j h1 h2 h3 => ?_⟩
        · funext c; unfold mRl rwS; first
            | ((repeat (refine va_case ?_ ?_; (· (intro h; first | (subst h; rfl) | (unfold va_up; repeat' split; (all_goals first | rfl | omega | (subst_vars; rfl) | (funext j; unfold upd; repeat' split; all_goals first | rfl | omega | (subst_vars; rfl)))))); intro h)); (repeat (refine va_case2 ?_ ?_; (· (intro h; first | exact absurd h (by assumption) | (subst h; rfl) | (subst h; funext j; unfold upd; repeat' split; (all_goals first | rfl | omega | (subst_vars; rfl))))); intro h)); rfl)
            | (unfold va_up; repeat' split
               all_goals first | rfl | omega | (subst_vars; rfl) | (funext j; unfold upd; repeat' split; all_goals first | rfl | omega | (subst_vars; rfl)))
        · show upd (upd (mRl σ hd jd 232) 46 (nI 0)) 50 (-1) j = _
          rw [pk_un h2, pk_un h3]
      · refine ⟨rfl, fun i hi => absurd hi (Nat.not_lt_zero i), fun t ht => ?_, fun t ht => ?_, ?_⟩
        · obtain ⟨q, hq, -⟩ := ht
          cases hq
        · show f t = _
          rw [i2 t ht, isB_F]
          rintro ⟨q, hq, -⟩
          cases hq
        · exact cnt_zero (fun t ht => by obtain ⟨q, hq, -⟩ := ht; cases hq) 1000
    · have q := qgeF q i 1000
      repeat refine kX_one rfl ?_
      refine kX_bastN rfl rfl (by decide) (i) (by first | rfl | decide) (by omega) (Or.inl rfl) ?_
      iterate 2 (refine kX_one rfl ?_)
      rw [kup_up]
      have := ih (i + 1, upd f i 0) ⟨by simp only; omega, fun t ht => by
        simp only at ht ⊢
        by_cases e : t = i
        · subst e
          exact pk_us
        · rw [pk_un e]
          exact i2 t (by omega)⟩ (by simp only; omega)
      rw [← nI_1] at this
      exact this
end
section
/-! the reference: a TERM whose VARIABLES stand for something -/
theorem mTb_is2 {σ : kS} {n b t k x y : Nat} (h : mTb σ n b) (ht : mv n b t) (hi : mIs σ t (nI k) (nI x) (nI y)) (hk : 3 < k) (hk9 : k ≤ 9) (hx : x < 1000) (hy : y < 1000) : tvl (σ 233) (σ 234) (σ 235) t = vnd k (tvl (σ 233) (σ 234) (σ 235) x) (some (tvl (σ 233) (σ 234) (σ 235) y)) ∧ tgd (σ 233) (σ 234) (σ 235) t = (tgd (σ 233) (σ 234) (σ 235) x && tgd (σ 233) (σ 234) (σ 235) y) := by
  have hV := h.2.2.2.2.2.1.1
  rcases (hV t ht).2 with ⟨k', h3, hk', -, -⟩ | ⟨k', x', y', h3, hk', hx', hy', h4, h5, h6, h7⟩ | ⟨k', x', h3, hk', hx', hy', h4, h6⟩
  · have := nI_inj (hi.1.symm.trans hk')
    omega
  · have e1 := (hV x' h6).1
    have e2 := (hV y' h7).1
    obtain rfl : k = k' := nI_inj (hi.1.symm.trans hk')
    obtain rfl : x = x' := nI_inj (hi.2.1.symm.trans hx')
    obtain rfl : y = y' := nI_inj (hi.2.2.symm.trans hy')
    exact ⟨tvl_2 hV hk' hx' hy' hk hk9 h4 h5 h6 h7, tgd_2 hV hk' hx' hy' hk hk9 h4 h5 h6 h7⟩
  · exact absurd (hi.2.2.symm.trans hy') (nI_m1 (by omega))
theorem mTb_is1 {σ : kS} {n b t k x : Nat} (h : mTb σ n b) (ht : mv n b t) (hi : mIs σ t (nI k) (nI x) (-1)) (hk : 3 < k) (hk9 : k ≤ 9) (hx : x < 1000) : tvl (σ 233) (σ 234) (σ 235) t = vnd k (tvl (σ 233) (σ 234) (σ 235) x) none ∧ tgd (σ 233) (σ 234) (σ 235) t = tgd (σ 233) (σ 234) (σ 235) x := by
  have hV := h.2.2.2.2.2.1.1
  rcases (hV t ht).2 with ⟨k', h3, hk', -, -⟩ | ⟨k', x', y', h3, hk', hx', hy', h4, h5, h6, h7⟩ | ⟨k', x', h3, hk', hx', hy', h4, h6⟩
  · have := nI_inj (hi.1.symm.trans hk')
    omega
  · have e2 := (hV y' h7).1
    exact absurd (hy'.symm.trans hi.2.2) (nI_m1 (by omega))
  · have e1 := (hV x' h6).1
    obtain rfl : k = k' := nI_inj (hi.1.symm.trans hk')
    obtain rfl : x = x' := nI_inj (hi.2.1.symm.trans hx')
    exact ⟨tvl_1 hV hk' hx' hy' hk hk9 h4 h6, tgd_1 hV hk' hx' hy' hk hk9 h4 h6⟩
/-- what a VARIABLE's TERM stands for in the session s -/
def mVl (σ : kS) (s u : Nat) : Nat := fN (σ 265 (6 * s + fN (σ 241 u)))
/-- a TERM whose VARIABLES stand as in the session s -/
def tin (σ : kS) (s t : Nat) : Jvm.Term := tA (fun u => if σ 233 u = nI 3 then tvl (σ 233) (σ 234) (σ 235) (mVl σ s u) else .arg u) vnd (σ 233) (σ 234) (σ 235) t
/-- all VARIABLES of the TERM t stand for GROUND TERMS, those for AGENTS for AGENTS -/
def mSt (σ : kS) (n s t : Nat) : Prop := ∀ u ∈ tvs (σ 233) (σ 234) (σ 235) t, ∃ p z, p < 6 ∧ z < n ∧ σ 241 u = nI p ∧ σ 265 (6 * s + p) = nI z ∧ tgd (σ 233) (σ 234) (σ 235) z = true ∧ (σ 240 u = nI 0 → σ 233 z = nI 0)
/-- contents with a longer table -/
def exS (σ : kS) (K F S Z G nx hd N I : Nat → Int32) (b : Nat) : kS := va_up (va_up (mU σ K F S Z G nx hd (upd (σ 232) 10 (nI b))) 266 N) 267 I
theorem exS_of {σ τ : kS} (h : ∀ c, c ≠ 233 → c ≠ 234 → c ≠ 235 → c ≠ 236 → c ≠ 237 → c ≠ 243 → c ≠ 242 → c ≠ 232 → c ≠ 266 → c ≠ 267 → τ c = σ c) {b : Nat} (hb : τ 232 = upd (σ 232) 10 (nI b)) : τ = exS σ (τ 233) (τ 234) (τ 235) (τ 236) (τ 237) (τ 243) (τ 242) (τ 266) (τ 267) b := by
  funext c
  unfold exS mU va_up
  repeat' split
  all_goals first | (next e => rw [e]) | skip
  · next h1 h2 e => rw [e, hb]
  · next h1 h2 h3 h4 h5 h6 h7 h8 h9 h10 => exact h c h10 h9 h8 h7 h6 h5 h4 h3 h2 h1
/-- the table has grown to b', the old TERMS are as they were -/
def mEx (σ τ : kS) (n b b' : Nat) : Prop := mTb τ n b' ∧ b ≤ b' ∧ (∀ u, u < b → τ 233 u = σ 233 u ∧ τ 234 u = σ 234 u ∧ τ 235 u = σ 235 u) ∧ ∃ K F S Z G nx hd N I, τ = exS σ K F S Z G nx hd N I b'
theorem mEx_trans {σ τ ρ : kS} {n b b' b'' : Nat} (h1 : mEx σ τ n b b') (h2 : mEx τ ρ n b' b'') : mEx σ ρ n b b'' := by
  obtain ⟨a1, a2, a3, K, F, S, Z, G, nx, hd, N, I, rfl⟩ := h1
  obtain ⟨c1, c2, c3, K', F', S', Z', G', nx', hd', N', I', rfl⟩ := h2
  refine ⟨c1, by omega, fun u hu => ?_, K', F', S', Z', G', nx', hd', N', I', ?_⟩
  · obtain ⟨p1, p2, p3⟩ := c3 u (by omega)
    obtain ⟨q1, q2, q3⟩ := a3 u hu
    exact ⟨p1.trans q1, p2.trans q2, p3.trans q3⟩
  · have := exS_of (σ := σ) (τ := exS (exS σ K F S Z G nx hd N I b') K' F' S' Z' G' nx' hd' N' I' b'') (b := b'') (fun c h1 h2 h3 h4 h5 h6 h7 h8 h9 h10 => by simp [exS, mU, va_up, h1, h2, h3, h4, h5, h6, h7, h8, h9, h10]) (by
      funext j
      show upd (upd (σ 232) 10 (nI b')) 10 (nI b'') j = _
      unfold upd
      split <;> rfl)
    rw [this]
    rfl
theorem mEx_tvl {σ τ : kS} {n b b' : Nat} (h0 : mTb σ n b) (h : mEx σ τ n b b') {u : Nat} (hu : mv n b u) : tvl (τ 233) (τ 234) (τ 235) u = tvl (σ 233) (σ 234) (σ 235) u ∧ tgd (τ 233) (τ 234) (τ 235) u = tgd (σ 233) (σ 234) (σ 235) u :=
  have hlt : ∀ t, mv n b t → t < b := fun t ht => by have := h0.1; have := h0.2.1; unfold mv at ht; omega
  ⟨tA_congr h0.2.2.2.2.2.1.1 (fun t ht => ⟨(h.2.2.1 t (hlt t ht)).1, (h.2.2.1 t (hlt t ht)).2.1, (h.2.2.1 t (hlt t ht)).2.2, rfl⟩) u hu, tA_congr h0.2.2.2.2.2.1.1 (fun t ht => ⟨(h.2.2.1 t (hlt t ht)).1, (h.2.2.1 t (hlt t ht)).2.1, (h.2.2.1 t (hlt t ht)).2.2, by rw [(h.2.2.1 t (hlt t ht)).1]⟩) u hu⟩
theorem mEx_refl {σ : kS} {n b : Nat} (h : mTb σ n b) {τ : kS} {N I : Nat → Int32} (e : τ = va_up (va_up σ 266 N) 267 I) : mEx σ τ n b b := by
  subst e
  refine ⟨h, Nat.le_refl _, fun u _ => ⟨rfl, rfl, rfl⟩, σ 233, σ 234, σ 235, σ 236, σ 237, σ 243, σ 242, N, I, ?_⟩
  have := exS_of (σ := σ) (τ := va_up (va_up σ 266 N) 267 I) (b := b) (fun c h1 h2 h3 h4 h5 h6 h7 h8 h9 h10 => by simp [va_up, h9, h10]) (by
    funext j
    show σ 232 j = _
    unfold upd
    split
    · next e => rw [e]; exact h.2.2.2.2.1
    · rfl)
  rw [this]
  rfl
end
