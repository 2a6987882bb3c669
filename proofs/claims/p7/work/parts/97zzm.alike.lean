/-! alike: the class's table as the reference's -/
/-- the class's place of a TERM -/
def cpt (σ : kS) (t : Nat) : Nat := fN (cSl (σ 2 t) (σ 3 t) (σ 4 t))
/-- TERM t is the same on both sides -/
def aT1 (σ : kS) (t : Nat) : Prop := σ 2 t = σ 233 t ∧ σ 3 t = σ 234 t ∧ σ 4 t = σ 235 t ∧ σ 5 t = σ 236 t ∧ σ 8 t = σ 237 t ∧ (σ 233 t = nI 0 → σ 9 t = σ 238 t) ∧ (σ 233 t = nI 3 → σ 10 t = σ 239 t ∧ σ 11 t = σ 240 t ∧ σ 12 t = σ 241 t)
/-- the class's chains -/
def cCn (σ : kS) (n : Nat) : Prop := hcP 256 1928 (fun t => t < n ∧ 3 < fN (σ 2 t)) (cpt σ) (σ 7) (σ 6)
def aT (σ : kS) (n : Nat) : Prop := (∀ t, t < n → aT1 σ t) ∧ cCn σ n
def cIs (σ : kS) (t : Nat) (w x y : Int32) : Prop := σ 2 t = w ∧ σ 3 t = x ∧ σ 4 t = y
/-- what a search in a chain gives -/
def cFn (σ : kS) (P : Nat → Prop) (w x y : Int32) (r : Option Value) : Prop := (r = some (.int (-1)) ∧ ∀ t, P t → ¬ cIs σ t w x y) ∨ ∃ t, P t ∧ r = some (.int (nI t)) ∧ cIs σ t w x y
set_option maxRecDepth 100000 in
set_option maxHeartbeats 4000000 in
theorem mf_findFrom (L : Nat) (xs : Nat → Int32) (d : Nat) (σ : kS) (P : Nat → Prop) (c w x y : Int32) (hP : ∀ t, P t → t < 1928 ∧ isTop P t (σ 6 t)) (hc : isTop P 1928 c) : kXM kT L xs (d + 1) 103 [.ref 1, .int c, .int w, .int x, .int y] σ (fun r σ' => cFn σ P w x y r ∧ σ = σ') := by
  unfold kXM
  have k79 : ∀ lv, (∀ t, P t → ¬ cIs σ t w x y) → kX kT L xs (d + 1) 103 79 lv [] σ (fun r σ' => cFn σ P w x y r ∧ σ = σ') := by
    intro lv hq
    iterate 1 (refine kX_one rfl ?_)
    refine kX_ret (i := .ireturn) (len := 1) rfl (Or.inr rfl) rfl (⟨Or.inl ⟨rfl, hq⟩, rfl⟩)
  have loop : ∀ q : Nat × Nat × Int32, (q.1 + q.2.1 ≤ 1928 ∧ isTop P q.2.1 q.2.2 ∧ ∀ t, P t → q.2.1 ≤ t → ¬ cIs σ t w x y) → kX kT L xs (d + 1) 103 6 [(6, .int (nI q.1)), (5, .int q.2.2), (0, .ref 1), (1, .int c), (2, .int w), (3, .int x), (4, .int y)] [] σ (fun r σ' => cFn σ P w x y r ∧ σ = σ') := by
    refine kX_while (fun q : Nat × Nat × Int32 => [(6, .int (nI q.1)), (5, .int q.2.2), (0, .ref 1), (1, .int c), (2, .int w), (3, .int x), (4, .int y)]) (fun _ => σ) _ (fun q => 1928 - q.1) ?_
    rintro ⟨m, bd, a⟩ ⟨i1, i2, i3⟩ ih
    dsimp only at i1 i2 i3 ih ⊢
    iterate 2 (refine kX_one rfl ?_)
    repeat refine kX_one rfl ?_
    refine kX_if (fun q => ?_) (fun q => ?_)
    · have q := qge q m 1928
      exact k79 _ (fun t ht => i3 t ht (by omega))
    · have q := qgeF q m 1928
      rcases i2 with ⟨rfl, i2⟩ | ⟨t, htb, rfl, hPt, i2⟩
      · iterate 2 (refine kX_one rfl ?_)
        exact k79 _ (fun t ht => by
          by_cases e : bd ≤ t
          · exact i3 t ht e
          · exact absurd ht (i2 t (by omega)))
      · have ht := (hP t hPt).1
        iterate 1 (refine kX_one rfl ?_)
        repeat refine kX_one rfl ?_
        refine kX_ifF (decide_eq_false (nI_pos (by omega))) ?_
        iterate 2 (refine kX_one rfl ?_)
        repeat refine kX_one rfl ?_
        refine kX_if (fun q2 => ?_) (fun q2 => ?_)
        · have q2 := qge q2 t 1928
          omega
        · have k64 : ¬ cIs σ t w x y → kX kT L xs (d + 1) 103 64 [(6, .int (nI m)), (5, .int (nI t)), (0, .ref 1), (1, .int c), (2, .int w), (3, .int x), (4, .int y)] [] σ (fun r σ' => cFn σ P w x y r ∧ σ = σ') := by
            intro hne
            iterate 3 (refine kX_one rfl ?_)
            refine kX_ialdN rfl rfl (by decide) (t) (by first | rfl | decide) (ht) ?_
            iterate 3 (refine kX_one rfl ?_)
            have := ih (m + 1, t, σ 6 t) ⟨by simp only; omega, (hP t hPt).2, fun u hu hut => by
              simp only at hut
              by_cases e : u = t
              · subst e
                exact hne
              · by_cases e2 : bd ≤ u
                · exact i3 u hu e2
                · exact absurd hu (i2 u (by omega) (by omega))⟩ (by simp only; omega)
            dsimp only at this
            rw [← nI_1] at this
            exact kX_lv _ rfl rfl rfl this
          iterate 3 (refine kX_one rfl ?_)
          refine kX_ialdN rfl rfl (by decide) (t) (by first | rfl | decide) (ht) ?_
          iterate 1 (refine kX_one rfl ?_)
          repeat refine kX_one rfl ?_
          refine kX_if (fun q3 => ?_) (fun q3 => ?_)
          · exact k64 (fun z => qne q3 z.1)
          · have q3 : σ 2 t = w := qneF q3
            iterate 3 (refine kX_one rfl ?_)
            refine kX_ialdN rfl rfl (by decide) (t) (by first | rfl | decide) (ht) ?_
            iterate 1 (refine kX_one rfl ?_)
            repeat refine kX_one rfl ?_
            refine kX_if (fun q4 => ?_) (fun q4 => ?_)
            · exact k64 (fun z => qne q4 z.2.1)
            · have q4 : σ 3 t = x := qneF q4
              iterate 3 (refine kX_one rfl ?_)
              refine kX_ialdN rfl rfl (by decide) (t) (by first | rfl | decide) (ht) ?_
              iterate 1 (refine kX_one rfl ?_)
              repeat refine kX_one rfl ?_
              refine kX_if (fun q5 => ?_) (fun q5 => ?_)
              · exact k64 (fun z => qne q5 z.2.2)
              · have q5 : σ 4 t = y := qneF q5
                iterate 1 (refine kX_one rfl ?_)
                refine kX_ret (i := .ireturn) (len := 1) rfl (Or.inr rfl) rfl (⟨Or.inr ⟨t, hPt, rfl, q3, q4, q5⟩, rfl⟩)
  iterate 4 (refine kX_one rfl ?_)
  exact kX_lv _ rfl rfl rfl (loop (0, 1928, c) ⟨Nat.le_refl _, hc, fun t ht q => by
    have := (hP t ht).1
    simp only at q
    omega⟩)
theorem cSl_ok (w x y : Int32) : fN (cSl w x y) < 256 ∧ cSl w x y = nI (fN (cSl w x y)) := by
  obtain ⟨k, k1, k2⟩ := cSl_lt w x y
  rw [k2, fN_nI (by omega)]
  exact ⟨k1, rfl⟩
/-- only one chain is looked through -/
theorem cFn_all {σ : kS} {V : Nat → Prop} {w x y : Int32} {r : Option Value} (h : cFn σ (fun t => V t ∧ cpt σ t = fN (cSl w x y)) w x y r) : cFn σ V w x y r := by
  rcases h with ⟨h1, h2⟩ | ⟨t, h1, h2, h3⟩
  · refine Or.inl ⟨h1, fun t ht q => h2 t ⟨ht, ?_⟩ q⟩
    unfold cpt
    rw [q.1, q.2.1, q.2.2]
  · exact Or.inr ⟨t, h1.1, h2, h3⟩
set_option maxRecDepth 100000 in
set_option maxHeartbeats 4000000 in
theorem mf_find (L : Nat) (xs : Nat → Int32) (d : Nat) (σ : kS) (n : Nat) (w x y : Int32) (hn : n ≤ 200) (h : cCn σ n) : kXM kT L xs (d + 2) 102 [.ref 1, .int w, .int x, .int y] σ (fun r σ' => cFn σ (fun t => t < n ∧ 3 < fN (σ 2 t)) w x y r ∧ σ = σ') := by
  unfold kXM
  iterate 6 (refine kX_one rfl ?_)
  refine kX_cal (mc_slot L xs d σ w x y) rfl (Or.inr rfl) rfl rfl rfl (fun r1 σ1 q1 => ?_)
  obtain ⟨rfl, rfl⟩ := q1
  obtain ⟨s1, s2⟩ := cSl_ok w x y
  refine kX_ialdN rfl rfl (by decide) (fN (cSl w x y)) (s2) (s1) ?_
  iterate 3 (refine kX_one rfl ?_)
  refine kX_cal (mf_findFrom L xs d σ (fun t => (t < n ∧ 3 < fN (σ 2 t)) ∧ cpt σ t = fN (cSl w x y)) (σ 7 (fN (cSl w x y))) w x y (fun t ht => ⟨by omega, ?_⟩) (h.1 _ s1)) rfl (Or.inr rfl) rfl rfl rfl (fun r1 σ1 q1 => ?_)
  · have := h.2 t ht.1
    rw [ht.2] at this
    exact this
  · obtain ⟨hq, rfl⟩ := q1
    have hq := cFn_all hq
    have hr : ∃ v, r1 = some (.int v) := by
      rcases hq with ⟨e, -⟩ | ⟨t, -, e, -⟩
      · exact ⟨_, e⟩
      · exact ⟨_, e⟩
    obtain ⟨v, rfl⟩ := hr
    refine kX_ret (i := .ireturn) (len := 1) rfl (Or.inr rfl) rfl (⟨hq, rfl⟩)
/-- the SIZE of what may be there -/
noncomputable def czs (σ : kS) (n : Nat) (x : Int32) : Int32 := cit (isN x n) (σ 5 (fN x)) 0
theorem czs_of {σ : kS} {n : Nat} {x y : Int32} (hn : n ≤ 200) (h1 : ∀ t, t < n → x = nI t → y = σ 5 t) (h2 : ¬ isN x n → y = 0) : y = czs σ n x := by
  unfold czs
  by_cases h : isN x n
  · rw [cit_T h]
    obtain ⟨t, t1, rfl⟩ := h
    rw [fN_nI (by omega)]
    exact h1 t t1 rfl
  · rw [cit_F h]
    exact h2 h
theorem czs_t {σ : kS} {n t : Nat} (ht : t < n) (hn : n ≤ 200) : czs σ n (nI t) = σ 5 t := by
  unfold czs
  rw [cit_T ⟨t, ht, rfl⟩, fN_nI (by omega)]
theorem czs_m1 {σ : kS} {n : Nat} (hn : n ≤ 200) : czs σ n (-1) = 0 := cit_F (fun ⟨j, j1, j2⟩ => nI_m1 (by omega) j2.symm)
set_option maxRecDepth 100000 in
set_option maxHeartbeats 4000000 in
theorem mf_sizeOf (L : Nat) (xs : Nat → Int32) (d : Nat) (σ : kS) (n : Nat) (x : Int32) (hn : n ≤ 200) (h : σ 1 11 = nI n) : kXM kT L xs (d + 2) 101 [.ref 1, .int x] σ (fun r σ' => r = some (.int (czs σ n x)) ∧ σ = σ') := by
  refine kX_post (mc_sizeOf L xs d σ n x hn h) (fun r σ' q => ?_)
  obtain ⟨⟨y, rfl, h1, h2⟩, rfl⟩ := q
  exact ⟨by rw [czs_of hn h1 h2], rfl⟩
