/-! the class: TERMS -/
/-- where a TERM's chain begins -/
def cSl (w x y : Int32) : Int32 := ((x * 37 + y) * 11 + w) &&& 255
theorem cSl_lt (w x y : Int32) : ∃ k, k < 256 ∧ cSl w x y = nI k := pk_andE _ (m := 255) 8 (by decide)
theorem rF {P : Prop} (h : ¬ P) : some (Value.int (Int32.ofInt 0)) = some (Value.int (isB P)) := by rw [isB_F h]; rfl
theorem rT {P : Prop} (h : P) : some (Value.int (Int32.ofInt 1)) = some (Value.int (isB P)) := by rw [isB_T h]; rfl
set_option maxRecDepth 100000 in
set_option maxHeartbeats 4000000 in
theorem mc_slot (L : Nat) (xs : Nat → Int32) (d : Nat) (σ : kS) (w x y : Int32) : kXM kT L xs (d + 1) 94 [.int w, .int x, .int y] σ (fun r σ' => r = some (.int (cSl w x y)) ∧ σ = σ') := by
  unfold kXM
  repeat refine kX_one rfl ?_
  refine kX_ret (i := .ireturn) (len := 1) rfl (Or.inr rfl) rfl (⟨rfl, rfl⟩)
set_option maxRecDepth 100000 in
set_option maxHeartbeats 4000000 in
theorem mc_has (L : Nat) (xs : Nat → Int32) (d : Nat) (σ : kS) (n : Nat) (x : Int32) (hn : n ≤ 200) (h : σ 1 11 = nI n) : kXM kT L xs (d + 1) 95 [.ref 1, .int x] σ (fun r σ' => r = some (.int (isB (isN x n))) ∧ σ = σ') := by
  unfold kXM
  repeat refine kX_one rfl ?_
  refine kX_if (fun q => ?_) (fun q => ?_)
  · have q : x < 0 := of_decide_eq_true q
    repeat refine kX_one rfl ?_
    refine kX_ret (i := .ireturn) (len := 1) rfl (Or.inr rfl) rfl ⟨rF (fun z => ?_), rfl⟩
    obtain ⟨j, j1, rfl⟩ := z
    exact nI_pos (by omega) q
  · have q : ¬ x < 0 := of_decide_eq_false q
    obtain ⟨j, hj, rfl⟩ := nI_of q
    iterate 3 (refine kX_one rfl ?_)
    refine kX_top (h) ?_
    repeat refine kX_one rfl ?_
    refine kX_if (fun q2 => ?_) (fun q2 => ?_)
    · have q2 := qge q2 j n
      repeat refine kX_one rfl ?_
      refine kX_ret (i := .ireturn) (len := 1) rfl (Or.inr rfl) rfl ⟨rF (fun z => ?_), rfl⟩
      obtain ⟨j', j1, e⟩ := z
      have := nI_inj e
      omega
    · have q2 := qgeF q2 j n
      repeat refine kX_one rfl ?_
      refine kX_ret (i := .ireturn) (len := 1) rfl (Or.inr rfl) rfl (⟨rT (⟨j, q2, rfl⟩), rfl⟩)
set_option maxRecDepth 100000 in
set_option maxHeartbeats 4000000 in
theorem mc_isFull (L : Nat) (xs : Nat → Int32) (d : Nat) (σ : kS) (n : Nat) (hn : n ≤ 200) (h : σ 1 11 = nI n) : kXM kT L xs (d + 1) 96 [.ref 1] σ (fun r σ' => r = some (.int (isB (n = 200))) ∧ σ = σ') := by
  unfold kXM
  iterate 2 (refine kX_one rfl ?_)
  refine kX_top (h) ?_
  repeat refine kX_one rfl ?_
  refine kX_if (fun q => ?_) (fun q => ?_)
  · have q := qlt q n 200
    repeat refine kX_one rfl ?_
    refine kX_ret (i := .ireturn) (len := 1) rfl (Or.inr rfl) rfl (⟨rF ((fun z => by omega)), rfl⟩)
  · have q := qltF q n 200
    repeat refine kX_one rfl ?_
    refine kX_ret (i := .ireturn) (len := 1) rfl (Or.inr rfl) rfl (⟨rT ((by omega)), rfl⟩)
set_option maxRecDepth 100000 in
set_option maxHeartbeats 4000000 in
theorem mc_isAgent (L : Nat) (xs : Nat → Int32) (d : Nat) (σ : kS) (n : Nat) (x : Int32) (hn : n ≤ 200) (h : σ 1 11 = nI n) : kXM kT L xs (d + 2) 97 [.ref 1, .int x] σ (fun r σ' => r = some (.int (isB (∃ t, t < n ∧ x = nI t ∧ σ 2 t = 0))) ∧ σ = σ') := by
  unfold kXM
  iterate 2 (refine kX_one rfl ?_)
  refine kX_cal (mc_has L xs d σ n x hn h) rfl (Or.inr rfl) rfl rfl rfl (fun r1 σ1 q1 => ?_)
  obtain ⟨rfl, rfl⟩ := q1
  repeat refine kX_one rfl ?_
  refine kX_if (fun q => ?_) (fun q => ?_)
  · have q : ¬ isN x n := fun z => isB_ne.mpr z (qeq q)
    repeat refine kX_one rfl ?_
    refine kX_ret (i := .ireturn) (len := 1) rfl (Or.inr rfl) rfl (⟨rF ((fun z => q (by obtain ⟨t, t1, t2, -⟩ := z; exact ⟨t, t1, t2⟩))), rfl⟩)
  · obtain ⟨t, t1, rfl⟩ := isB_ne.mp (qeqF q)
    iterate 3 (refine kX_one rfl ?_)
    refine kX_ialdN rfl rfl (by decide) (t) (by first | rfl | decide) (by omega) ?_
    repeat refine kX_one rfl ?_
    refine kX_if (fun q2 => ?_) (fun q2 => ?_)
    · have q2 : σ 2 t ≠ 0 := qne q2
      repeat refine kX_one rfl ?_
      refine kX_ret (i := .ireturn) (len := 1) rfl (Or.inr rfl) rfl ⟨rF (fun z => ?_), rfl⟩
      obtain ⟨u, u1, u2, u3⟩ := z
      obtain rfl : t = u := nI_inj u2
      exact q2 u3
    · have q2 : σ 2 t = 0 := qneF q2
      repeat refine kX_one rfl ?_
      refine kX_ret (i := .ireturn) (len := 1) rfl (Or.inr rfl) rfl (⟨rT (⟨t, t1, rfl, q2⟩), rfl⟩)
set_option maxRecDepth 100000 in
set_option maxHeartbeats 4000000 in
theorem mc_isHonest (L : Nat) (xs : Nat → Int32) (d : Nat) (σ : kS) (n : Nat) (x : Int32) (hn : n ≤ 200) (h : σ 1 11 = nI n) : kXM kT L xs (d + 3) 98 [.ref 1, .int x] σ (fun r σ' => r = some (.int (isB (∃ t, t < n ∧ x = nI t ∧ σ 2 t = 0 ∧ σ 9 t ≠ 0))) ∧ σ = σ') := by
  unfold kXM
  iterate 2 (refine kX_one rfl ?_)
  refine kX_cal (mc_isAgent L xs d σ n x hn h) rfl (Or.inr rfl) rfl rfl rfl (fun r1 σ1 q1 => ?_)
  obtain ⟨rfl, rfl⟩ := q1
  repeat refine kX_one rfl ?_
  refine kX_if (fun q => ?_) (fun q => ?_)
  · have q : ¬ ∃ t, t < n ∧ x = nI t ∧ σ 2 t = 0 := fun z => isB_ne.mpr z (qeq q)
    repeat refine kX_one rfl ?_
    refine kX_ret (i := .ireturn) (len := 1) rfl (Or.inr rfl) rfl (⟨rF ((fun z => q (by obtain ⟨t, t1, t2, t3, -⟩ := z; exact ⟨t, t1, t2, t3⟩))), rfl⟩)
  · obtain ⟨t, t1, rfl, t3⟩ := isB_ne.mp (qeqF q)
    iterate 3 (refine kX_one rfl ?_)
    refine kX_baldN rfl rfl (by decide) (t) (by first | rfl | decide) (by omega) ?_
    repeat refine kX_one rfl ?_
    refine kX_if (fun q2 => ?_) (fun q2 => ?_)
    · have q2 : σ 9 t = 0 := qeq q2
      repeat refine kX_one rfl ?_
      refine kX_ret (i := .ireturn) (len := 1) rfl (Or.inr rfl) rfl ⟨rF (fun z => ?_), rfl⟩
      obtain ⟨u, u1, u2, u3, u4⟩ := z
      obtain rfl : t = u := nI_inj u2
      exact u4 q2
    · have q2 : σ 9 t ≠ 0 := qeqF q2
      repeat refine kX_one rfl ?_
      refine kX_ret (i := .ireturn) (len := 1) rfl (Or.inr rfl) rfl (⟨rT (⟨t, t1, rfl, t3, q2⟩), rfl⟩)
set_option maxRecDepth 100000 in
set_option maxHeartbeats 4000000 in
theorem mc_mayBeAgent (L : Nat) (xs : Nat → Int32) (d : Nat) (σ : kS) (n t : Nat) (hn : n ≤ 200) (h : σ 1 11 = nI n) (ht : t < n) : kXM kT L xs (d + 3) 99 [.ref 1, .int (nI t)] σ (fun r σ' => r = some (.int (isB (σ 2 t = 0 ∨ (σ 2 t = 3 ∧ σ 11 t = 0)))) ∧ σ = σ') := by
  unfold kXM
  iterate 2 (refine kX_one rfl ?_)
  refine kX_cal (mc_isAgent L xs d σ n (nI t) hn h) rfl (Or.inr rfl) rfl rfl rfl (fun r1 σ1 q1 => ?_)
  obtain ⟨rfl, rfl⟩ := q1
  repeat refine kX_one rfl ?_
  refine kX_if (fun q => ?_) (fun q => ?_)
  · obtain ⟨u, u1, u2, u3⟩ := isB_ne.mp (qne q)
    obtain rfl : t = u := nI_inj u2
    repeat refine kX_one rfl ?_
    refine kX_ret (i := .ireturn) (len := 1) rfl (Or.inr rfl) rfl (⟨rT ((Or.inl u3)), rfl⟩)
  · have q : σ 2 t ≠ 0 := fun z => isB_ne.mpr ⟨t, ht, rfl, z⟩ (qneF q)
    iterate 2 (refine kX_one rfl ?_)
    refine kX_cal (mc_has L xs (d + 1) σ n (nI t) hn h) rfl (Or.inr rfl) rfl rfl rfl (fun r1 σ1 q1 => ?_)
    obtain ⟨rfl, rfl⟩ := q1
    repeat refine kX_one rfl ?_
    refine kX_ifF (by rw [isB_T ⟨t, ht, rfl⟩]; rfl) ?_
    iterate 3 (refine kX_one rfl ?_)
    refine kX_ialdN rfl rfl (by decide) (t) (by first | rfl | decide) (by omega) ?_
    iterate 1 (refine kX_one rfl ?_)
    repeat refine kX_one rfl ?_
    refine kX_if (fun q2 => ?_) (fun q2 => ?_)
    · have q2 : σ 2 t ≠ 3 := qne q2
      repeat refine kX_one rfl ?_
      refine kX_ret (i := .ireturn) (len := 1) rfl (Or.inr rfl) rfl (⟨rF ((fun z => z.elim q (fun z => q2 z.1))), rfl⟩)
    · have q2 : σ 2 t = 3 := qneF q2
      iterate 3 (refine kX_one rfl ?_)
      refine kX_ialdN rfl rfl (by decide) (t) (by first | rfl | decide) (by omega) ?_
      repeat refine kX_one rfl ?_
      refine kX_if (fun q3 => ?_) (fun q3 => ?_)
      · have q3 : σ 11 t ≠ 0 := qne q3
        repeat refine kX_one rfl ?_
        refine kX_ret (i := .ireturn) (len := 1) rfl (Or.inr rfl) rfl (⟨rF ((fun z => z.elim q (fun z => q3 z.2))), rfl⟩)
      · have q3 : σ 11 t = 0 := qneF q3
        repeat refine kX_one rfl ?_
        refine kX_ret (i := .ireturn) (len := 1) rfl (Or.inr rfl) rfl (⟨rT ((Or.inr ⟨q2, q3⟩)), rfl⟩)
set_option maxRecDepth 100000 in
set_option maxHeartbeats 4000000 in
theorem mc_isOpen (L : Nat) (xs : Nat → Int32) (d : Nat) (σ : kS) (n : Nat) (x : Int32) (hn : n ≤ 200) (h : σ 1 11 = nI n) : kXM kT L xs (d + 2) 100 [.ref 1, .int x] σ (fun r σ' => r = some (.int (isB (∃ t, t < n ∧ x = nI t ∧ σ 8 t = 0 ∧ σ 2 t ≠ 3))) ∧ σ = σ') := by
  unfold kXM
  iterate 2 (refine kX_one rfl ?_)
  refine kX_cal (mc_has L xs d σ n x hn h) rfl (Or.inr rfl) rfl rfl rfl (fun r1 σ1 q1 => ?_)
  obtain ⟨rfl, rfl⟩ := q1
  repeat refine kX_one rfl ?_
  refine kX_if (fun q => ?_) (fun q => ?_)
  · have q : ¬ isN x n := fun z => isB_ne.mpr z (qeq q)
    repeat refine kX_one rfl ?_
    refine kX_ret (i := .ireturn) (len := 1) rfl (Or.inr rfl) rfl (⟨rF ((fun z => q (by obtain ⟨t, t1, t2, -⟩ := z; exact ⟨t, t1, t2⟩))), rfl⟩)
  · obtain ⟨t, t1, rfl⟩ := isB_ne.mp (qeqF q)
    iterate 3 (refine kX_one rfl ?_)
    refine kX_baldN rfl rfl (by decide) (t) (by first | rfl | decide) (by omega) ?_
    repeat refine kX_one rfl ?_
    refine kX_if (fun q2 => ?_) (fun q2 => ?_)
    · have q2 : σ 8 t ≠ 0 := qne q2
      repeat refine kX_one rfl ?_
      refine kX_ret (i := .ireturn) (len := 1) rfl (Or.inr rfl) rfl ⟨rF (fun z => ?_), rfl⟩
      obtain ⟨u, u1, u2, u3, -⟩ := z
      obtain rfl : t = u := nI_inj u2
      exact q2 u3
    · have q2 : σ 8 t = 0 := qneF q2
      iterate 3 (refine kX_one rfl ?_)
      refine kX_ialdN rfl rfl (by decide) (t) (by first | rfl | decide) (by omega) ?_
      iterate 1 (refine kX_one rfl ?_)
      repeat refine kX_one rfl ?_
      refine kX_if (fun q3 => ?_) (fun q3 => ?_)
      · have q3 : σ 2 t = 3 := qeq q3
        repeat refine kX_one rfl ?_
        refine kX_ret (i := .ireturn) (len := 1) rfl (Or.inr rfl) rfl ⟨rF (fun z => ?_), rfl⟩
        obtain ⟨u, u1, u2, u3, u4⟩ := z
        obtain rfl : t = u := nI_inj u2
        exact u4 q3
      · have q3 : σ 2 t ≠ 3 := qeqF q3
        repeat refine kX_one rfl ?_
        refine kX_ret (i := .ireturn) (len := 1) rfl (Or.inr rfl) rfl (⟨rT (⟨t, t1, rfl, q2, q3⟩), rfl⟩)
set_option maxRecDepth 100000 in
set_option maxHeartbeats 4000000 in
theorem mc_sizeOf (L : Nat) (xs : Nat → Int32) (d : Nat) (σ : kS) (n : Nat) (x : Int32) (hn : n ≤ 200) (h : σ 1 11 = nI n) : kXM kT L xs (d + 2) 101 [.ref 1, .int x] σ (fun r σ' => (∃ y, r = some (.int y) ∧ (∀ t, t < n → x = nI t → y = σ 5 t) ∧ (¬ isN x n → y = 0)) ∧ σ = σ') := by
  unfold kXM
  iterate 2 (refine kX_one rfl ?_)
  refine kX_cal (mc_has L xs d σ n x hn h) rfl (Or.inr rfl) rfl rfl rfl (fun r1 σ1 q1 => ?_)
  obtain ⟨rfl, rfl⟩ := q1
  repeat refine kX_one rfl ?_
  refine kX_if (fun q => ?_) (fun q => ?_)
  · have q : ¬ isN x n := fun z => isB_ne.mpr z (qeq q)
    repeat refine kX_one rfl ?_
    refine kX_ret (i := .ireturn) (len := 1) rfl (Or.inr rfl) rfl (⟨⟨_, rfl, fun t t1 t2 => absurd ⟨t, t1, t2⟩ q, fun _ => rfl⟩, rfl⟩)
  · obtain ⟨t, t1, rfl⟩ := isB_ne.mp (qeqF q)
    iterate 3 (refine kX_one rfl ?_)
    refine kX_ialdN rfl rfl (by decide) (t) (by first | rfl | decide) (by omega) ?_
    repeat refine kX_one rfl ?_
    refine kX_ret (i := .ireturn) (len := 1) rfl (Or.inr rfl) rfl (⟨⟨_, rfl, fun u u1 u2 => by rw [nI_inj u2], fun z => absurd ⟨t, t1, rfl⟩ z⟩, rfl⟩)
