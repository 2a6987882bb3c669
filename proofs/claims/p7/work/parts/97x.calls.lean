/-! the class: calls about TERMS -/
set_option maxRecDepth 100000 in
set_option maxHeartbeats 4000000 in
theorem mc_find (L : Nat) (xs : Nat → Int32) (d : Nat) (σ : kS) (n : Nat) (w x y : Int32) (h : cT σ n) : kXM kT L xs (d + 2) 102 [.ref 1, .int w, .int x, .int y] σ (fun r σ' => (r = some (.int (-1)) ∨ ∃ t, (t < n ∧ 4 ≤ fN (σ 2 t)) ∧ r = some (.int (nI t)) ∧ σ 2 t = w ∧ σ 3 t = x ∧ σ 4 t = y) ∧ σ = σ') := by
  have hn := h.1
  unfold kXM
  iterate 6 (refine kX_one rfl ?_)
  refine kX_cal (mc_slot L xs d σ w x y) rfl (Or.inr rfl) rfl rfl rfl (fun r1 σ1 q1 => ?_)
  obtain ⟨rfl, rfl⟩ := q1
  obtain ⟨sl, s1, s2⟩ := cSl_lt w x y
  refine kX_ialdN rfl rfl (by decide) (sl) (s2) (s1) ?_
  iterate 3 (refine kX_one rfl ?_)
  refine kX_cal (mc_findFrom L xs d σ (fun t => t < n ∧ 4 ≤ fN (σ 2 t)) (σ 7 sl) w x y (fun t ht => by omega) (fun t ht => ?_) ?_) rfl (Or.inr rfl) rfl rfl rfl (fun r1 σ1 q1 => ?_)
  · rcases (h.2.2.2 t ht.1).2.2.2.2.2.2.2.2 ht.2 with q | ⟨u, u1, u2, u3⟩
    · exact Or.inl q
    · exact Or.inr ⟨u, ⟨by omega, u3⟩, u2⟩
  · rcases h.2.2.1 sl s1 with q | ⟨u, u1, u2, u3⟩
    · exact Or.inl q
    · exact Or.inr ⟨u, ⟨u1, u3⟩, u2⟩
  · obtain ⟨hq, rfl⟩ := q1
    rcases hq with rfl | ⟨t, t1, rfl, t2⟩
    · refine kX_ret (i := .ireturn) (len := 1) rfl (Or.inr rfl) rfl (⟨Or.inl rfl, rfl⟩)
    · refine kX_ret (i := .ireturn) (len := 1) rfl (Or.inr rfl) rfl (⟨Or.inr ⟨t, t1, rfl, t2⟩, rfl⟩)
set_option maxRecDepth 100000 in
set_option maxHeartbeats 4000000 in
theorem mc_compound (L : Nat) (xs : Nat → Int32) (d : Nat) (σ : kS) (n R S C k : Nat) (x y : Int32) (h : cJ σ n R S C) (hk : 4 ≤ k) (hk9 : k ≤ 9) (hx : ∃ x', x' < n ∧ x = nI x') (hy : (∃ y', y' < n ∧ y = nI y') ∨ (y = -1 ∧ (k = 7 ∨ k = 9))) : kXM kT L xs (d + 5) 142 [.ref 0, .int (nI k), .int x, .int y] σ (fun r σ' => (∃ x, r = some (.int x)) ∧ cAfter σ σ' R) := by
  have hT := h.1
  have hn := hT.1
  unfold kXM
  iterate 4 (refine kX_one rfl ?_)
  refine kX_cal (mc_sizeOf L xs (d + 2) σ n x hn hT.2.1) rfl (Or.inr rfl) rfl rfl rfl (fun r1 σ1 q1 => ?_)
  obtain ⟨⟨z1, rfl, -⟩, rfl⟩ := q1
  iterate 4 (refine kX_one rfl ?_)
  refine kX_cal (mc_sizeOf L xs (d + 2) σ n y hn hT.2.1) rfl (Or.inr rfl) rfl rfl rfl (fun r1 σ1 q1 => ?_)
  obtain ⟨⟨z2, rfl, -⟩, rfl⟩ := q1
  iterate 2 (refine kX_one rfl ?_)
  repeat refine kX_one rfl ?_
  refine kX_if (fun q => ?_) (fun q => ?_)
  · iterate 5 (refine kX_one rfl ?_)
    refine kX_cal (mc_find L xs (d + 2) σ n (nI k) x y hT) rfl (Or.inr rfl) rfl rfl rfl (fun r1 σ1 q1 => ?_)
    obtain ⟨hq, rfl⟩ := q1
    rcases hq with rfl | ⟨t, t1, rfl, -⟩
    · iterate 6 (refine kX_one rfl ?_)
      refine kX_cal (mc_isFull L xs (d + 3) σ n hn hT.2.1) rfl (Or.inr rfl) rfl rfl rfl (fun r1 σ1 q1 => ?_)
      obtain ⟨rfl, rfl⟩ := q1
      repeat refine kX_one rfl ?_
      refine kX_if (fun q2 => ?_) (fun q2 => ?_)
      · iterate 5 (refine kX_one rfl ?_)
        refine kX_cal (mc_newCompound L xs d σ n k x y hT hk hk9 ?_ ?_ (fun _ => ?_)) rfl (Or.inr rfl) rfl rfl rfl (fun r1 σ1 q1 => ?_)
        · obtain ⟨x', x1, rfl⟩ := hx
          exact Or.inr ⟨x', by omega, rfl, Or.inl x1⟩
        · rcases hy with ⟨y', y1, rfl⟩ | ⟨rfl, -⟩
          · exact Or.inr ⟨y', by omega, rfl, Or.inl y1⟩
          · exact Or.inl rfl
        · obtain ⟨x', x1, x2⟩ := hx
          exact ⟨x', x1, x2, hy⟩
        · rcases q1 with ⟨rfl, rfl, rfl⟩ | ⟨hlt, rfl, g1, g2, -⟩
          · refine kX_ret (i := .ireturn) (len := 1) rfl (Or.inr rfl) rfl (⟨⟨_, rfl⟩, cAfter_same h⟩)
          · refine kX_ret (i := .ireturn) (len := 1) rfl (Or.inr rfl) rfl (⟨⟨_, rfl⟩, cGr_hi g2, n + 1, S, C, cJ_gr h g2 (by omega) g1⟩)
      · repeat refine kX_one rfl ?_
        refine kX_ret (i := .ireturn) (len := 1) rfl (Or.inr rfl) rfl (⟨⟨_, rfl⟩, cAfter_same h⟩)
    · iterate 3 (refine kX_one rfl ?_)
      repeat refine kX_one rfl ?_
      refine kX_if (fun q2 => ?_) (fun q2 => ?_)
      · exact absurd (qeq q2) (nI_m1 (by omega))
      · repeat refine kX_one rfl ?_
        refine kX_ret (i := .ireturn) (len := 1) rfl (Or.inr rfl) rfl (⟨⟨_, rfl⟩, cAfter_same h⟩)
  · repeat refine kX_one rfl ?_
    refine kX_ret (i := .ireturn) (len := 1) rfl (Or.inr rfl) rfl (⟨⟨_, rfl⟩, cAfter_same h⟩)
set_option maxRecDepth 100000 in
set_option maxHeartbeats 4000000 in
theorem mc_asNumber (L : Nat) (xs : Nat → Int32) (d : Nat) (σ : kS) (x : Int32) : kXM kT L xs (d + 1) 139 [.int x] σ (fun r σ' => r = some (.int (isB (x ≠ 0))) ∧ σ = σ') := by
  unfold kXM
  repeat refine kX_one rfl ?_
  refine kX_if (fun q => ?_) (fun q => ?_)
  · have q : x = 0 := qeq q
    repeat refine kX_one rfl ?_
    refine kX_ret (i := .ireturn) (len := 1) rfl (Or.inr rfl) rfl (⟨rF (fun z => z q), rfl⟩)
  · have q : x ≠ 0 := qeqF q
    repeat refine kX_one rfl ?_
    refine kX_ret (i := .ireturn) (len := 1) rfl (Or.inr rfl) rfl (⟨rT q, rfl⟩)
set_option maxRecDepth 100000 in
set_option maxHeartbeats 4000000 in
theorem mc_orNone (L : Nat) (xs : Nat → Int32) (d : Nat) (σ : kS) (x : Int32) : kXM kT L xs (d + 1) 140 [.int x] σ (fun r σ' => r = some (.int (if x = -1 then -6 else x)) ∧ σ = σ') := by
  unfold kXM
  repeat refine kX_one rfl ?_
  refine kX_if (fun q => ?_) (fun q => ?_)
  · have q : x ≠ -1 := qne q
    repeat refine kX_one rfl ?_
    refine kX_ret (i := .ireturn) (len := 1) rfl (Or.inr rfl) rfl (⟨by rw [if_neg q], rfl⟩)
  · have q : x = -1 := qneF q
    repeat refine kX_one rfl ?_
    refine kX_ret (i := .ireturn) (len := 1) rfl (Or.inr rfl) rfl (⟨by rw [if_pos q]; rfl, rfl⟩)
set_option maxRecDepth 100000 in
set_option maxHeartbeats 4000000 in
theorem mk_agent (L : Nat) (xs : Nat → Int32) (d : Nat) (σ : kS) (n R S C : Nat) (b : Int32) (hb : b = 0 ∨ b = 1) (h : cJ σ n R S C) : kXM kT L xs (d + 5) 109 [.ref 0, .int b] σ (fun r σ' => (∃ x, r = some (.int x)) ∧ cAfter σ σ' R) := by
  have hT := h.1
  unfold kXM
  iterate 2 (refine kX_one rfl ?_)
  refine kX_cal (mc_isFull L xs (d + 3) σ n hT.1 hT.2.1) rfl (Or.inr rfl) rfl rfl rfl (fun r1 σ1 q1 => ?_)
  obtain ⟨rfl, rfl⟩ := q1
  repeat refine kX_one rfl ?_
  refine kX_if (fun q => ?_) (fun q => ?_)
  · iterate 4 (refine kX_one rfl ?_)
    refine kX_cal (mc_newAtom L xs d σ n 0 b hT (by decide) hb) rfl (Or.inr rfl) rfl rfl rfl (fun r1 σ1 q1 => ?_)
    rcases q1 with ⟨rfl, rfl, rfl⟩ | ⟨hlt, rfl, g1, g2, -⟩
    · refine kX_ret (i := .ireturn) (len := 1) rfl (Or.inr rfl) rfl (⟨⟨_, rfl⟩, cAfter_same h⟩)
    · refine kX_ret (i := .ireturn) (len := 1) rfl (Or.inr rfl) rfl (⟨⟨_, rfl⟩, cGr_hi g2, n + 1, S, C, cJ_gr h g2 (by omega) g1⟩)
  · repeat refine kX_one rfl ?_
    refine kX_ret (i := .ireturn) (len := 1) rfl (Or.inr rfl) rfl (⟨⟨_, rfl⟩, cAfter_same h⟩)
set_option maxRecDepth 100000 in
set_option maxHeartbeats 4000000 in
theorem mk_atom (L : Nat) (xs : Nat → Int32) (d : Nat) (σ : kS) (n R S C : Nat) (x : Int32) (h : cJ σ n R S C) : kXM kT L xs (d + 5) 110 [.ref 0, .int x] σ (fun r σ' => (∃ x, r = some (.int x)) ∧ cAfter σ σ' R) := by
  have hT := h.1
  unfold kXM
  have k13 : ∀ k, k ≤ 2 → x = nI k → kX kT L xs (d + 5) 110 13 (lv_args 0 [.ref 0, .int x]) [] σ (fun r σ' => (∃ x, r = some (.int x)) ∧ cAfter σ σ' R) := by
    intro k hk hx
    subst hx
    iterate 2 (refine kX_one rfl ?_)
    refine kX_cal (mc_isFull L xs (d + 3) σ n hT.1 hT.2.1) rfl (Or.inr rfl) rfl rfl rfl (fun r1 σ1 q1 => ?_)
    obtain ⟨rfl, rfl⟩ := q1
    repeat refine kX_one rfl ?_
    refine kX_if (fun q => ?_) (fun q => ?_)
    · iterate 4 (refine kX_one rfl ?_)
      refine kX_cal (mc_newAtom L xs d σ n k 0 hT hk (Or.inl rfl)) rfl (Or.inr rfl) rfl rfl rfl (fun r1 σ1 q1 => ?_)
      rcases q1 with ⟨rfl, rfl, rfl⟩ | ⟨hlt, rfl, g1, g2, -⟩
      · refine kX_ret (i := .ireturn) (len := 1) rfl (Or.inr rfl) rfl (⟨⟨_, rfl⟩, cAfter_same h⟩)
      · refine kX_ret (i := .ireturn) (len := 1) rfl (Or.inr rfl) rfl (⟨⟨_, rfl⟩, cGr_hi g2, n + 1, S, C, cJ_gr h g2 (by omega) g1⟩)
    · repeat refine kX_one rfl ?_
      refine kX_ret (i := .ireturn) (len := 1) rfl (Or.inr rfl) rfl (⟨⟨_, rfl⟩, cAfter_same h⟩)
  repeat refine kX_one rfl ?_
  refine kX_if (fun q => ?_) (fun q => ?_)
  · exact k13 1 (by decide) (qeq q)
  · repeat refine kX_one rfl ?_
    refine kX_if (fun q => ?_) (fun q => ?_)
    · exact k13 2 (by decide) (qeq q)
    · repeat refine kX_one rfl ?_
      refine kX_ret (i := .ireturn) (len := 1) rfl (Or.inr rfl) rfl (⟨⟨_, rfl⟩, cAfter_same h⟩)
set_option maxRecDepth 100000 in
set_option maxHeartbeats 4000000 in
theorem mk_term (L : Nat) (xs : Nat → Int32) (d : Nat) (σ : kS) (n R S C : Nat) (w x y : Int32) (h : cJ σ n R S C) : kXM kT L xs (d + 6) 111 [.ref 0, .int w, .int x, .int y] σ (fun r σ' => (∃ x, r = some (.int x)) ∧ cAfter σ σ' R) := by
  have hT := h.1
  have hn := hT.1
  unfold kXM
  have k28 : kX kT L xs (d + 6) 111 28 (lv_args 0 [.ref 0, .int w, .int x, .int y]) [] σ (fun r σ' => (∃ x, r = some (.int x)) ∧ cAfter σ σ' R) := by
    repeat refine kX_one rfl ?_
    refine kX_ret (i := .ireturn) (len := 1) rfl (Or.inr rfl) rfl (⟨⟨_, rfl⟩, cAfter_same h⟩)
  have k63 : ∀ k z, 4 ≤ k → k ≤ 9 → w = nI k → (∃ x', x' < n ∧ x = nI x') → ((∃ y', y' < n ∧ z = nI y') ∨ (z = -1 ∧ (k = 7 ∨ k = 9))) → kX kT L xs (d + 6) 111 63 (lv_args 0 [.ref 0, .int w, .int x, .int y]) [.int z, .int x, .int w, .ref 0] σ (fun r σ' => (∃ x, r = some (.int x)) ∧ cAfter σ σ' R) := by
    intro k z k1 k2 hw hx hz
    subst hw
    refine kX_cal (mc_compound L xs d σ n R S C k x z h k1 k2 hx hz) rfl (Or.inr rfl) rfl rfl rfl (fun r1 σ1 q1 => ?_)
    obtain ⟨⟨v, rfl⟩, hA⟩ := q1
    refine kX_ret (i := .ireturn) (len := 1) rfl (Or.inr rfl) rfl (⟨⟨_, rfl⟩, hA⟩)
  have k30 : (∃ x', x' < n ∧ x = nI x') → (w = 9 ∨ ∃ y', y' < n ∧ y = nI y') → kX kT L xs (d + 6) 111 30 (lv_args 0 [.ref 0, .int w, .int x, .int y]) [] σ (fun r σ' => (∃ x, r = some (.int x)) ∧ cAfter σ σ' R) := by
    intro hx hy
    have k49 : ∀ k, (k = 4 ∨ k = 5 ∨ k = 9) → w = nI k → kX kT L xs (d + 6) 111 49 (lv_args 0 [.ref 0, .int w, .int x, .int y]) [] σ (fun r σ' => (∃ x, r = some (.int x)) ∧ cAfter σ σ' R) := by
      intro k hk hw
      iterate 5 (refine kX_one rfl ?_)
      repeat refine kX_one rfl ?_
      refine kX_if (fun q => ?_) (fun q => ?_)
      · have q : w ≠ 9 := qne q
        iterate 1 (refine kX_one rfl ?_)
        exact k63 k y (by omega) (by omega) hw hx (Or.inl (hy.elim (fun z => absurd z q) id))
      · have q : w = 9 := qneF q
        have hk9 : k = 9 := nI_inj (hw.symm.trans q)
        iterate 2 (refine kX_one rfl ?_)
        exact k63 k (-1) (by omega) (by omega) hw hx (Or.inr ⟨rfl, Or.inr hk9⟩)
    repeat refine kX_one rfl ?_
    refine kX_if (fun q => ?_) (fun q => ?_)
    · exact k49 4 (Or.inl rfl) (qeq q)
    · repeat refine kX_one rfl ?_
      refine kX_if (fun q => ?_) (fun q => ?_)
      · exact k49 5 (Or.inr (Or.inl rfl)) (qeq q)
      · repeat refine kX_one rfl ?_
        refine kX_if (fun q => ?_) (fun q => ?_)
        · exact k49 9 (Or.inr (Or.inr rfl)) (qeq q)
        · repeat refine kX_one rfl ?_
          refine kX_ret (i := .ireturn) (len := 1) rfl (Or.inr rfl) rfl (⟨⟨_, rfl⟩, cAfter_same h⟩)
  iterate 3 (refine kX_one rfl ?_)
  refine kX_cal (mc_has L xs (d + 4) σ n x hn hT.2.1) rfl (Or.inr rfl) rfl rfl rfl (fun r1 σ1 q1 => ?_)
  obtain ⟨rfl, rfl⟩ := q1
  repeat refine kX_one rfl ?_
  refine kX_if (fun q => ?_) (fun q => ?_)
  · exact k28
  · have hx := isB_ne.mp (qeqF q)
    repeat refine kX_one rfl ?_
    refine kX_if (fun q => ?_) (fun q => ?_)
    · exact k30 hx (Or.inl (qeq q))
    · iterate 3 (refine kX_one rfl ?_)
      refine kX_cal (mc_has L xs (d + 4) σ n y hn hT.2.1) rfl (Or.inr rfl) rfl rfl rfl (fun r1 σ1 q1 => ?_)
      obtain ⟨rfl, rfl⟩ := q1
      repeat refine kX_one rfl ?_
      refine kX_if (fun q2 => ?_) (fun q2 => ?_)
      · exact k30 hx (Or.inr (isB_ne.mp (qne q2)))
      · exact k28
set_option maxRecDepth 100000 in
set_option maxHeartbeats 4000000 in
theorem mk_of (L : Nat) (xs : Nat → Int32) (d : Nat) (σ : kS) (n R S C : Nat) (w x y : Int32) (h : cJ σ n R S C) : kXM kT L xs (d + 6) 112 [.ref 0, .int w, .int x, .int y] σ (fun r σ' => (∃ x, r = some (.int x)) ∧ cAfter σ σ' R) := by
  have hT := h.1
  have hn := hT.1
  unfold kXM
  have k28 : kX kT L xs (d + 6) 112 28 (lv_args 0 [.ref 0, .int w, .int x, .int y]) [] σ (fun r σ' => (∃ x, r = some (.int x)) ∧ cAfter σ σ' R) := by
    repeat refine kX_one rfl ?_
    refine kX_ret (i := .ireturn) (len := 1) rfl (Or.inr rfl) rfl (⟨⟨_, rfl⟩, cAfter_same h⟩)
  have k59 : kX kT L xs (d + 6) 112 59 (lv_args 0 [.ref 0, .int w, .int x, .int y]) [] σ (fun r σ' => (∃ x, r = some (.int x)) ∧ cAfter σ σ' R) := by
    repeat refine kX_one rfl ?_
    refine kX_ret (i := .ireturn) (len := 1) rfl (Or.inr rfl) rfl (⟨⟨_, rfl⟩, cAfter_same h⟩)
  have k30 : (∃ y', y' < n ∧ y = nI y') → (w = 7 ∨ ∃ x', x' < n ∧ x = nI x') → kX kT L xs (d + 6) 112 30 (lv_args 0 [.ref 0, .int w, .int x, .int y]) [] σ (fun r σ' => (∃ x, r = some (.int x)) ∧ cAfter σ σ' R) := by
    intro hy hx
    have k48 : ∀ k, (k = 6 ∨ k = 7 ∨ k = 8) → w = nI k → kX kT L xs (d + 6) 112 48 (lv_args 0 [.ref 0, .int w, .int x, .int y]) [] σ (fun r σ' => (∃ x, r = some (.int x)) ∧ cAfter σ σ' R) := by
      intro k hk hw
      obtain ⟨y', y1, rfl⟩ := hy
      iterate 3 (refine kX_one rfl ?_)
      refine kX_cal (mc_mayBeAgent L xs (d + 2) σ n y' hn hT.2.1 y1) rfl (Or.inr rfl) rfl rfl rfl (fun r1 σ1 q1 => ?_)
      obtain ⟨rfl, rfl⟩ := q1
      repeat refine kX_one rfl ?_
      refine kX_if (fun q => ?_) (fun q => ?_)
      · iterate 2 (refine kX_one rfl ?_)
        repeat refine kX_one rfl ?_
        refine kX_if (fun q2 => ?_) (fun q2 => ?_)
        · have q2 : w ≠ 7 := qne q2
          subst hw
          iterate 4 (refine kX_one rfl ?_)
          refine kX_cal (mc_compound L xs d σ n R S C k x (nI y') h (by omega) (by omega) (hx.elim (fun z => absurd z q2) id) (Or.inl ⟨y', y1, rfl⟩)) rfl (Or.inr rfl) rfl rfl rfl (fun r1 σ1 q1 => ?_)
          obtain ⟨⟨v, rfl⟩, hA⟩ := q1
          refine kX_ret (i := .ireturn) (len := 1) rfl (Or.inr rfl) rfl (⟨⟨_, rfl⟩, hA⟩)
        · iterate 4 (refine kX_one rfl ?_)
          refine kX_cal (mc_compound L xs d σ n R S C 7 (nI y') (-1) h (by omega) (by omega) ⟨y', y1, rfl⟩ (Or.inr ⟨rfl, Or.inl rfl⟩)) rfl (Or.inr rfl) rfl rfl rfl (fun r1 σ1 q1 => ?_)
          obtain ⟨⟨v, rfl⟩, hA⟩ := q1
          iterate 1 (refine kX_one rfl ?_)
          refine kX_ret (i := .ireturn) (len := 1) rfl (Or.inr rfl) rfl (⟨⟨_, rfl⟩, hA⟩)
      · exact k59
    repeat refine kX_one rfl ?_
    refine kX_if (fun q => ?_) (fun q => ?_)
    · exact k48 6 (Or.inl rfl) (qeq q)
    · repeat refine kX_one rfl ?_
      refine kX_if (fun q => ?_) (fun q => ?_)
      · exact k48 7 (Or.inr (Or.inl rfl)) (qeq q)
      · repeat refine kX_one rfl ?_
        refine kX_if (fun q => ?_) (fun q => ?_)
        · exact k59
        · exact k48 8 (Or.inr (Or.inr rfl)) (qneF q)
  iterate 3 (refine kX_one rfl ?_)
  refine kX_cal (mc_has L xs (d + 4) σ n y hn hT.2.1) rfl (Or.inr rfl) rfl rfl rfl (fun r1 σ1 q1 => ?_)
  obtain ⟨rfl, rfl⟩ := q1
  repeat refine kX_one rfl ?_
  refine kX_if (fun q => ?_) (fun q => ?_)
  · exact k28
  · have hy := isB_ne.mp (qeqF q)
    repeat refine kX_one rfl ?_
    refine kX_if (fun q => ?_) (fun q => ?_)
    · exact k30 hy (Or.inl (qeq q))
    · iterate 3 (refine kX_one rfl ?_)
      refine kX_cal (mc_has L xs (d + 4) σ n x hn hT.2.1) rfl (Or.inr rfl) rfl rfl rfl (fun r1 σ1 q1 => ?_)
      obtain ⟨rfl, rfl⟩ := q1
      repeat refine kX_one rfl ?_
      refine kX_if (fun q2 => ?_) (fun q2 => ?_)
      · exact k30 hy (Or.inr (isB_ne.mp (qne q2)))
      · exact k28
