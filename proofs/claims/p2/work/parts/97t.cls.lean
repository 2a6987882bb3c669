section
/-! the class: TERMS -/
/-- where a TERM's chain begins -/
def cSl (w x y : Int32) : Int32 := ((x * 37 + y) * 11 + w) &&& 255
theorem cSl_lt (w x y : Int32) : ∃ k, k < 256 ∧ cSl w x y = nI k := pk_andE _ (m := 255) 8 (by decide)
theorem rF {P : Prop} (h : ¬ P) : some (Value.int (Int32.ofInt 0)) = some (Value.int (isB P)) := by rw [isB_F h]; rfl
theorem rT {P : Prop} (h : P) : some (Value.int (Int32.ofInt 1)) = some (Value.int (isB P)) := by rw [isB_T h]; rfl
set_option maxRecDepth 100000 in
set_option maxHeartbeats 4000000 in
theorem mc_slot (L : Nat) (xs : Nat → Int32) (d : Nat) (σ : kS) (w x y : Int32) : kXM kT L xs (d + 1) 94 [.int w, .int x, .int y] σ (fun r σ' => r = some (.int (cSl w x y)) ∧ σ = σ') := by
  unfold kXM
  repeat refine kX_one rfl ?_
  refine kX_ret (i := .ireturn) (len := 1) rfl (Or.inr rfl) rfl (⟨rfl, rfl⟩)
set_option maxRecDepth 100000 in
set_option maxHeartbeats 4000000 in
theorem mc_has (L : Nat) (xs : Nat → Int32) (d : Nat) (σ : kS) (n : Nat) (x : Int32) (hn : n ≤ 200) (h : σ 1 11 = nI n) : kXM kT L xs (d + 1) 95 [.ref 1, .int x] σ (fun r σ' => r = some (.int (isB (isN x n))) ∧ σ = σ') := by
  unfold kXM
  repeat refine kX_one rfl ?_
  refine kX_if (fun q => ?_) (fun q => ?_)
  · have q : x < 0 := of_decide_eq_true q
    repeat refine kX_one rfl ?_
    refine kX_ret (i := .ireturn) (len := 1) rfl (Or.inr rfl) rfl ⟨rF (fun z => ?_), rfl⟩
    obtain ⟨j, j1, rfl⟩ := z
    exact nI_pos (by omega) q
  · have q : ¬ x < 0 := of_decide_eq_false q
    obtain ⟨j, hj, rfl⟩ := nI_of q
    iterate 3 (refine kX_one rfl ?_)
    refine kX_top (h) ?_
    repeat refine kX_one rfl ?_
    refine kX_if (fun q2 => ?_) (fun q2 => ?_)
    · have q2 := qge q2 j n
      repeat refine kX_one rfl ?_
      refine kX_ret (i := .ireturn) (len := 1) rfl (Or.inr rfl) rfl ⟨rF (fun z => ?_), rfl⟩
      obtain ⟨j', j1, e⟩ := z
      have := nI_inj e
      omega
    · have q2 := qgeF q2 j n
      repeat refine kX_one rfl ?_
      refine kX_ret (i := .ireturn) (len := 1) rfl (Or.inr rfl) rfl (⟨rT (⟨j, q2, rfl⟩), rfl⟩)
set_option maxRecDepth 100000 in
set_option maxHeartbeats 4000000 in
theorem mc_isFull (L : Nat) (xs : Nat → Int32) (d : Nat) (σ : kS) (n : Nat) (hn : n ≤ 200) (h : σ 1 11 = nI n) : kXM kT L xs (d + 1) 96 [.ref 1] σ (fun r σ' => r = some (.int (isB (n = 200))) ∧ σ = σ') := by
  unfold kXM
  iterate 2 (refine kX_one rfl ?_)
  refine kX_top (h) ?_
  repeat refine kX_one rfl ?_
  refine kX_if (fun q => ?_) (fun q => ?_)
  · have q := qlt q n 200
    repeat refine kX_one rfl ?_
    refine kX_ret (i := .ireturn) (len := 1) rfl (Or.inr rfl) rfl (⟨rF ((fun z => by omega)), rfl⟩)
  · have q := qltF q n 200
    repeat refine kX_one rfl ?_
    refine kX_ret (i := .ireturn) (len := 1) rfl (Or.inr rfl) rfl (⟨rT ((by omega)), rfl⟩)
set_option maxRecDepth 100000 in
set_option maxHeartbeats 4000000 in
theorem mc_isAgent (L : Nat) (xs : Nat → Int32) (d : Nat) (σ : kS) (n : Nat) (x : Int32) (hn : n ≤ 200) (h : σ 1 11 = nI n) : kXM kT L xs (d + 2) 97 [.ref 1, .int x] σ (fun r σ' => r = some (.int (isB (∃ t, t < n ∧ x = nI t ∧ σ 2 t = 0))) ∧ σ = σ') := by
  unfold kXM
  iterate 2 (refine kX_one rfl ?_)
  refine kX_cal (mc_has L xs d σ n x hn h) rfl (Or.inr rfl) rfl rfl rfl (fun r1 σ1 q1 => ?_)
  obtain ⟨rfl, rfl⟩ := q1
  repeat refine kX_one rfl ?_
  refine kX_if (fun q => ?_) (fun q => ?_)
  · have q : ¬ isN x n := fun z => isB_ne.mpr z (qeq q)
    repeat refine kX_one rfl ?_
    refine kX_ret (i := .ireturn) (len := 1) rfl (Or.inr rfl) rfl (⟨rF ((fun z => q (by obtain ⟨t, t1, t2, -⟩ := z; exact ⟨t, t1, t2⟩))), rfl⟩)
  · obtain ⟨t, t1, rfl⟩ := isB_ne.mp (qeqF q)
    iterate 3 (refine kX_one rfl ?_)
    refine kX_ialdN rfl rfl (by decide) (t) (by first | rfl | decide) (by omega) ?_
    repeat refine kX_one rfl ?_
    refine kX_if (fun q2 => ?_) (fun q2 => ?_)
    · have q2 : σ 2 t ≠ 0 := qne q2
      repeat refine kX_one rfl ?_
      refine kX_ret (i := .ireturn) (len := 1) rfl (Or.inr rfl) rfl ⟨rF (fun z => ?_), rfl⟩
      obtain ⟨u, u1, u2, u3⟩ := z
      obtain rfl : t = u := nI_inj u2
      exact q2 u3
    · have q2 : σ 2 t = 0 := qneF q2
      repeat refine kX_one rfl ?_
      refine kX_ret (i := .ireturn) (len := 1) rfl (Or.inr rfl) rfl (⟨rT (⟨t, t1, rfl, q2⟩), rfl⟩)
set_option maxRecDepth 100000 in
set_option maxHeartbeats 4000000 in
theorem mc_isHonest (L : Nat) (xs : Nat → Int32) (d : Nat) (σ : kS) (n : Nat) (x : Int32) (hn : n ≤ 200) (h : σ 1 11 = nI n) : kXM kT L xs (d + 3) 98 [.ref 1, .int x] σ (fun r σ' => r = some (.int (isB (∃ t, t < n ∧ x = nI t ∧ σ 2 t = 0 ∧ σ 9 t ≠ 0))) ∧ σ = σ') := by
  unfold kXM
  iterate 2 (refine kX_one rfl ?_)
  refine kX_cal (mc_isAgent L xs d σ n x hn h) rfl (Or.inr rfl) rfl rfl rfl (fun r1 σ1 q1 => ?_)
  obtain ⟨rfl, rfl⟩ := q1
  repeat refine kX_one rfl ?_
  refine kX_if (fun q => ?_) (fun q => ?_)
  · have q : ¬ ∃ t, t < n ∧ x = nI t ∧ σ 2 t = 0 := fun z => isB_ne.mpr z (qeq q)
    repeat refine kX_one rfl ?_
    refine kX_ret (i := .ireturn) (len := 1) rfl (Or.inr rfl) rfl (⟨rF ((fun z => q (by obtain ⟨t, t1, t2, t3, -⟩ := z; exact ⟨t, t1, t2, t3⟩))), rfl⟩)
  · obtain ⟨t, t1, rfl, t3⟩ := isB_ne.mp (qeqF q)
    iterate 3 (refine kX_one rfl ?_)
    refine kX_baldN rfl rfl (by decide) (t) (by first | rfl | decide) (by omega) ?_
    repeat refine kX_one rfl ?_
    refine kX_if (fun q2 => ?_) (fun q2 => ?_)
    · have q2 : σ 9 t = 0 := qeq q2
      repeat refine kX_one rfl ?_
      refine kX_ret (i := .ireturn) (len := 1) rfl (Or.inr rfl) rfl ⟨rF (fun z => ?_), rfl⟩
      obtain ⟨u, u1, u2, u3, u4⟩ := z
      obtain rfl : t = u := nI_inj u2
      exact u4 q2
    · have q2 : σ 9 t ≠ 0 := qeqF q2
      repeat refine kX_one rfl ?_
      refine kX_ret (i := .ireturn) (len := 1) rfl (Or.inr rfl) rfl (⟨rT (⟨t, t1, rfl, t3, q2⟩), rfl⟩)
set_option maxRecDepth 100000 in
set_option maxHeartbeats 4000000 in
theorem mc_mayBeAgent (L : Nat) (xs : Nat → Int32) (d : Nat) (σ : kS) (n t : Nat) (hn : n ≤ 200) (h : σ 1 11 = nI n) (ht : t < n) : kXM kT L xs (d + 3) 99 [.ref 1, .int (nI t)] σ (fun r σ' => r = some (.int (isB (σ 2 t = 0 ∨ (σ 2 t = 3 ∧ σ 11 t = 0)))) ∧ σ = σ') := by
  unfold kXM
  iterate 2 (refine kX_one rfl ?_)
  refine kX_cal (mc_isAgent L xs d σ n (nI t) hn h) rfl (Or.inr rfl) rfl rfl rfl (fun r1 σ1 q1 => ?_)
  obtain ⟨rfl, rfl⟩ := q1
  repeat refine kX_one rfl ?_
  refine kX_if (fun q => ?_) (fun q => ?_)
  · obtain ⟨u, u1, u2, u3⟩ := isB_ne.mp (qne q)
    obtain rfl : t = u := nI_inj u2
    repeat refine kX_one rfl ?_
    refine kX_ret (i := .ireturn) (len := 1) rfl (Or.inr rfl) rfl (⟨rT ((Or.inl u3)), rfl⟩)
  · have q : σ 2 t ≠ 0 := fun z => isB_ne.mpr ⟨t, ht, rfl, z⟩ (qneF q)
    iterate 2 (refine kX_one rfl ?_)
    refine kX_cal (mc_has L xs (d + 1) σ n (nI t) hn h) rfl (Or.inr rfl) rfl rfl rfl (fun r1 σ1 q1 => ?_)
    obtain ⟨rfl, rfl⟩ := q1
    repeat refine kX_one rfl ?_
    refine kX_ifF (by rw [isB_T ⟨t, ht, rfl⟩]; rfl) ?_
    iterate 3 (refine kX_one rfl ?_)
    refine kX_ialdN rfl rfl (by decide) (t) (by first | rfl | decide) (by omega) ?_
    iterate 1 (refine kX_one rfl ?_)
    repeat refine kX_one rfl ?_
    refine kX_if (fun q2 => ?_) (fun q2 => ?_)
    · have q2 : σ 2 t ≠ 3 := qne q2
      repeat refine kX_one rfl ?_
      refine kX_ret (i := .ireturn) (len := 1) rfl (Or.inr rfl) rfl (⟨rF ((fun z => z.elim q (fun z => q2 z.1))), rfl⟩)
    · have q2 : σ 2 t = 3 := qneF q2
      iterate 3 (refine kX_one rfl ?_)
      refine kX_ialdN rfl rfl (by decide) (t) (by first | rfl | decide) (by omega) ?_
      repeat refine kX_one rfl ?_
      refine kX_if (fun q3 => ?_) (fun q3 => ?_)
      · have q3 : σ 11 t ≠ 0 := qne q3
        repeat refine kX_one rfl ?_
        refine kX_ret (i := .ireturn) (len := 1) rfl (Or.inr rfl) rfl (⟨rF ((fun z => z.elim q (fun z => q3 z.2))), rfl⟩)
      · have q3 : σ 11 t = 0 := qneF q3
        repeat refine kX_one rfl ?_
        refine kX_ret (i := .ireturn) (len := 1) rfl (Or.inr rfl) rfl (⟨rT ((Or.inr ⟨q2, q3⟩)), rfl⟩)
set_option maxRecDepth 100000 in
set_option maxHeartbeats 4000000 in
theorem mc_isOpen (L : Nat) (xs : Nat → Int32) (d : Nat) (σ : kS) (n : Nat) (x : Int32) (hn : n ≤ 200) (h : σ 1 11 = nI n) : kXM kT L xs (d + 2) 100 [.ref 1, .int x] σ (fun r σ' => r = some (.int (isB (∃ t, t < n ∧ x = nI t ∧ σ 8 t = 0 ∧ σ 2 t ≠ 3))) ∧ σ = σ') := by
  unfold kXM
  iterate 2 (refine kX_one rfl ?_)
  refine kX_cal (mc_has L xs d σ n x hn h) rfl (Or.inr rfl) rfl rfl rfl (fun r1 σ1 q1 => ?_)
  obtain ⟨rfl, rfl⟩ := q1
  repeat refine kX_one rfl ?_
  refine kX_if (fun q => ?_) (fun q => ?_)
  · have q : ¬ isN x n := fun z => isB_ne.mpr z (qeq q)
    repeat refine kX_one rfl ?_
    refine kX_ret (i := .ireturn) (len := 1) rfl (Or.inr rfl) rfl (⟨rF ((fun z => q (by obtain ⟨t, t1, t2, -⟩ := z; exact ⟨t, t1, t2⟩))), rfl⟩)
  · obtain ⟨t, t1, rfl⟩ := isB_ne.mp (qeqF q)
    iterate 3 (refine kX_one rfl ?_)
    refine kX_baldN rfl rfl (by decide) (t) (by first | rfl | decide) (by omega) ?_
    repeat refine kX_one rfl ?_
    refine kX_if (fun q2 => ?_) (fun q2 => ?_)
    · have q2 : σ 8 t ≠ 0 := qne q2
      repeat refine kX_one rfl ?_
      refine kX_ret (i := .ireturn) (len := 1) rfl (Or.inr rfl) rfl ⟨rF (fun z => ?_), rfl⟩
      obtain ⟨u, u1, u2, u3, -⟩ := z
      obtain rfl : t = u := nI_inj u2
      exact q2 u3
    · have q2 : σ 8 t = 0 := qneF q2
      iterate 3 (refine kX_one rfl ?_)
      refine kX_ialdN rfl rfl (by decide) (t) (by first | rfl | decide) (by omega) ?_
      iterate 1 (refine kX_one rfl ?_)
      repeat refine kX_one rfl ?_
      refine kX_if (fun q3 => ?_) (fun q3 => ?_)
      · have q3 : σ 2 t = 3 := qeq q3
        repeat refine kX_one rfl ?_
        refine kX_ret (i := .ireturn) (len := 1) rfl (Or.inr rfl) rfl ⟨rF (fun z => ?_), rfl⟩
        obtain ⟨u, u1, u2, u3, u4⟩ := z
        obtain rfl : t = u := nI_inj u2
        exact u4 q3
      · have q3 : σ 2 t ≠ 3 := qeqF q3
        repeat refine kX_one rfl ?_
        refine kX_ret (i := .ireturn) (len := 1) rfl (Or.inr rfl) rfl (⟨rT (⟨t, t1, rfl, q2, q3⟩), rfl⟩)
set_option maxRecDepth 100000 in
set_option maxHeartbeats 4000000 in
theorem mc_sizeOf (L : Nat) (xs : Nat → Int32) (d : Nat) (σ : kS) (n : Nat) (x : Int32) (hn : n ≤ 200) (h : σ 1 11 = nI n) : kXM kT L xs (d + 2) 101 [.ref 1, .int x] σ (fun r σ' => (∃ y, r = some (.int y) ∧ (∀ t, t < n → x = nI t → y = σ 5 t) ∧ (¬ isN x n → y = 0)) ∧ σ = σ') := by
  unfold kXM
  iterate 2 (refine kX_one rfl ?_)
  refine kX_cal (mc_has L xs d σ n x hn h) rfl (Or.inr rfl) rfl rfl rfl (fun r1 σ1 q1 => ?_)
  obtain ⟨rfl, rfl⟩ := q1
  repeat refine kX_one rfl ?_
  refine kX_if (fun q => ?_) (fun q => ?_)
  · have q : ¬ isN x n := fun z => isB_ne.mpr z (qeq q)
    repeat refine kX_one rfl ?_
    refine kX_ret (i := .ireturn) (len := 1) rfl (Or.inr rfl) rfl (⟨⟨_, rfl, fun t t1 t2 => absurd ⟨t, t1, t2⟩ q, fun _ => rfl⟩, rfl⟩)
  · obtain ⟨t, t1, rfl⟩ := isB_ne.mp (qeqF q)
    iterate 3 (refine kX_one rfl ?_)
    refine kX_ialdN rfl rfl (by decide) (t) (by first | rfl | decide) (by omega) ?_
    repeat refine kX_one rfl ?_
    refine kX_ret (i := .ireturn) (len := 1) rfl (Or.inr rfl) rfl (⟨⟨_, rfl, fun u u1 u2 => by rw [nI_inj u2], fun z => absurd ⟨t, t1, rfl⟩ z⟩, rfl⟩)
end
section
/-! the class: its table of TERMS -/
/-- of what a TERM may be: nothing, an older TERM, or one without number -/
def cCh (t : Nat) (c : Int32) : Prop := c = -1 ∨ ∃ z, z < 2000 ∧ c = nI z ∧ (z < t ∨ 200 ≤ z)
def cG (σ : kS) (t : Nat) (c : Int32) : Prop := ∀ z, z < t → c = nI z → σ 8 z = 1
def cTt (σ : kS) (t : Nat) : Prop :=
  (∃ k, k ≤ 9 ∧ σ 2 t = nI k) ∧ cCh t (σ 3 t) ∧ cCh t (σ 4 t) ∧ (σ 8 t = 0 ∨ σ 8 t = 1) ∧
  (σ 2 t = nI 3 → σ 8 t = 0 ∧ ∃ p, p < 6 ∧ σ 12 t = nI p) ∧
  (σ 2 t ≠ nI 3 → (σ 8 t = 1 ↔ cG σ t (σ 3 t) ∧ cG σ t (σ 4 t))) ∧
  (fN (σ 2 t) ≤ 3 → σ 3 t = -1 ∧ σ 4 t = -1) ∧
  (4 ≤ fN (σ 2 t) → σ 8 t = 0 → ∃ x, x < t ∧ σ 3 t = nI x ∧ ((∃ y, y < t ∧ σ 4 t = nI y) ∨ (σ 4 t = -1 ∧ (σ 2 t = nI 7 ∨ σ 2 t = nI 9)))) ∧
  (4 ≤ fN (σ 2 t) → σ 6 t = -1 ∨ ∃ u, u < t ∧ σ 6 t = nI u ∧ 4 ≤ fN (σ 2 u))
/-- the class's table holds together: n TERMS -/
def cT (σ : kS) (n : Nat) : Prop := n ≤ 200 ∧ σ 1 11 = nI n ∧ (∀ s, s < 256 → σ 7 s = -1 ∨ ∃ t, t < n ∧ σ 7 s = nI t ∧ 4 ≤ fN (σ 2 t)) ∧ ∀ t, t < n → cTt σ t
theorem cTt_eq {σ τ : kS} {t : Nat} (h : ∀ u, u ≤ t → τ 2 u = σ 2 u ∧ τ 3 u = σ 3 u ∧ τ 4 u = σ 4 u ∧ τ 8 u = σ 8 u ∧ τ 12 u = σ 12 u ∧ τ 6 u = σ 6 u) (hT : cTt σ t) : cTt τ t := by
  obtain ⟨e1, e2, e3, e4, e5, e6⟩ := h t (Nat.le_refl _)
  have hG : ∀ c, cG τ t c ↔ cG σ t c := fun c => ⟨fun q z z1 z2 => by rw [← (h z (by omega)).2.2.2.1]; exact q z z1 z2, fun q z z1 z2 => by rw [(h z (by omega)).2.2.2.1]; exact q z z1 z2⟩
  unfold cTt
  rw [e1, e2, e3, e4, e5, e6, hG, hG]
  obtain ⟨a1, a2, a3, a4, a5, a6, a7, a8, a9⟩ := hT
  refine ⟨a1, a2, a3, a4, a5, a6, a7, a8, fun q => ?_⟩
  rcases a9 q with z | ⟨u, u1, u2, u3⟩
  · exact Or.inl z
  · exact Or.inr ⟨u, u1, u2, by rw [(h u (by omega)).1]; exact u3⟩
theorem cG_eq {σ τ : kS} {t : Nat} {c : Int32} (h : ∀ u, u < t → τ 8 u = σ 8 u) : cG τ t c ↔ cG σ t c := ⟨fun q z z1 z2 => by rw [← h z z1]; exact q z z1 z2, fun q z z1 z2 => by rw [h z z1]; exact q z z1 z2⟩
def cP3 (σ : kS) (n : Nat) (w x y : Int32) : kS := va_up (va_up (va_up σ 2 (upd (σ 2) n w)) 3 (upd (σ 3) n x)) 4 (upd (σ 4) n y)
def cPut (σ : kS) (n : Nat) (w x y z g : Int32) : kS := va_up (va_up (va_up (va_up (va_up (va_up (va_up σ 2 (upd (σ 2) n w)) 3 (upd (σ 3) n x)) 4 (upd (σ 4) n y)) 5 (upd (σ 5) n z)) 8 (upd (σ 8) n g)) 9 (upd (σ 9) n 0)) 1 (upd (σ 1) 11 (nI (n + 1)))
set_option maxRecDepth 100000 in
set_option maxHeartbeats 4000000 in
theorem mc_put (L : Nat) (xs : Nat → Int32) (d : Nat) (σ : kS) (n : Nat) (w x y : Int32) (hn : n ≤ 200) (h : σ 1 11 = nI n) (h01 : ∀ z, z < n → σ 8 z = 0 ∨ σ 8 z = 1) : kXM kT L xs (d + 3) 107 [.ref 1, .int w, .int x, .int y] σ (fun r σ' => (n = 200 ∧ r = some (.int (-1)) ∧ σ = σ') ∨ (n < 200 ∧ r = some (.int (nI n)) ∧ ∃ z g, (g = 0 ∨ g = 1) ∧ (g = 1 ↔ cG σ n x ∧ cG σ n y) ∧ σ' = cPut σ n w x y z g)) := by
  unfold kXM
  iterate 1 (refine kX_one rfl ?_)
  refine kX_cal (mc_isFull L xs (d + 1) σ n hn h) rfl (Or.inr rfl) rfl rfl rfl (fun r1 σ1 q1 => ?_)
  obtain ⟨rfl, rfl⟩ := q1
  repeat refine kX_one rfl ?_
  refine kX_if (fun q => ?_) (fun q => ?_)
  · have hlt : n < 200 := by
      have : ¬ n = 200 := fun z => isB_ne.mpr z (qeq q)
      omega
    have hρ : cP3 σ n w x y 1 11 = nI n := h
    have k104 : ∀ z g, (g = 0 ∨ g = 1) → (g = 1 ↔ cG σ n x ∧ cG σ n y) → kX kT L xs (d + 3) 107 104 [(4, .int (nI n)), (0, .ref 1), (1, .int w), (2, .int x), (3, .int y)] [.int g, .int (nI n), .ref 8] (va_up (cP3 σ n w x y) 5 (upd (σ 5) n z)) (fun r σ' => (n = 200 ∧ r = some (.int (-1)) ∧ σ = σ') ∨ (n < 200 ∧ r = some (.int (nI n)) ∧ ∃ z g, (g = 0 ∨ g = 1) ∧ (g = 1 ↔ cG σ n x ∧ cG σ n y) ∧ σ' = cPut σ n w x y z g)) := by
      intro z g hg hgc
      refine kX_bastN rfl rfl (by decide) (n) (by first | rfl | decide) (hlt) (hg) ?_
      iterate 4 (refine kX_one rfl ?_)
      refine kX_bastN rfl rfl (by decide) (n) (by first | rfl | decide) (hlt) (Or.inl rfl) ?_
      iterate 5 (refine kX_one rfl ?_)
      refine kX_st (cPut σ n w x y z g) ?_ ?_
      · unfold cPut
        rw [← nI_1]
        funext c; unfold cP3 va_up; repeat' split
        all_goals first | rfl | omega | (subst_vars; rfl) | (funext j; unfold upd; repeat' split; all_goals first | rfl | omega | (subst_vars; rfl))
      iterate 1 (refine kX_one rfl ?_)
      refine kX_ret (i := .ireturn) (len := 1) rfl (Or.inr rfl) rfl (Or.inr ⟨hlt, rfl, z, g, hg, hgc, rfl⟩)
    have hgx : ∀ c : Int32, isB (isN c n) = 0 → cG σ n c := fun c hc z z1 z2 => absurd hc (isB_ne.mpr ⟨z, z1, z2⟩)
    have hgy : ∀ t, t < n → σ 8 t = 1 → cG σ n (nI t) := fun t ht hg z z1 z2 => by
      rw [← nI_inj z2]
      exact hg
    have hgz : ∀ t, t < n → σ 8 t = 0 → ¬ cG σ n (nI t) := fun t ht hg z => by
      have := z t ht rfl
      rw [hg] at this
      exact absurd this (by decide)
    have h1of : ∀ t, t < n → σ 8 t ≠ 0 → σ 8 t = 1 := fun t ht q => (h01 t ht).elim (fun z => absurd z q) id
    have k82 : ∀ z, cG σ n x → kX kT L xs (d + 3) 107 82 [(4, .int (nI n)), (0, .ref 1), (1, .int w), (2, .int x), (3, .int y)] [.int (nI n), .ref 8] (va_up (cP3 σ n w x y) 5 (upd (σ 5) n z)) (fun r σ' => (n = 200 ∧ r = some (.int (-1)) ∧ σ = σ') ∨ (n < 200 ∧ r = some (.int (nI n)) ∧ ∃ z g, (g = 0 ∨ g = 1) ∧ (g = 1 ↔ cG σ n x ∧ cG σ n y) ∧ σ' = cPut σ n w x y z g)) := by
      intro z hx
      iterate 2 (refine kX_one rfl ?_)
      refine kX_cal (mc_has L xs (d + 1) _ n y hn hρ) rfl (Or.inr rfl) rfl rfl rfl (fun r1 σ1 q1 => ?_)
      obtain ⟨rfl, rfl⟩ := q1
      repeat refine kX_one rfl ?_
      refine kX_if (fun q2 => ?_) (fun q2 => ?_)
      · iterate 2 (refine kX_one rfl ?_)
        exact k104 z 1 (Or.inr rfl) ⟨fun _ => ⟨hx, hgx y (qeq q2)⟩, fun _ => rfl⟩
      · obtain ⟨t, t1, rfl⟩ := isB_ne.mp (qeqF q2)
        iterate 3 (refine kX_one rfl ?_)
        refine kX_baldN rfl rfl (by decide) (t) (by first | rfl | decide) (by omega) ?_
        repeat refine kX_one rfl ?_
        refine kX_if (fun q3 => ?_) (fun q3 => ?_)
        · have q3 : σ 8 t = 0 := qeq q3
          iterate 1 (refine kX_one rfl ?_)
          exact k104 z 0 (Or.inl rfl) ⟨fun z => absurd z (by decide), fun z => absurd z.2 (hgz t t1 q3)⟩
        · have q3 : σ 8 t ≠ 0 := qeqF q3
          iterate 2 (refine kX_one rfl ?_)
          exact k104 z 1 (Or.inr rfl) ⟨fun _ => ⟨hx, hgy t t1 (h1of t t1 q3)⟩, fun _ => rfl⟩
    iterate 2 (refine kX_one rfl ?_)
    refine kX_top (h) ?_
    iterate 5 (refine kX_one rfl ?_)
    refine kX_iastN rfl rfl (by decide) (n) (by first | rfl | decide) (by omega) ?_
    iterate 4 (refine kX_one rfl ?_)
    refine kX_iastN rfl rfl (by decide) (n) (by first | rfl | decide) (by omega) ?_
    iterate 4 (refine kX_one rfl ?_)
    refine kX_iastN rfl rfl (by decide) (n) (by first | rfl | decide) (by omega) ?_
    iterate 6 (refine kX_one rfl ?_)
    refine kX_cal (mc_sizeOf L xs d (cP3 σ n w x y) n x hn hρ) rfl (Or.inr rfl) rfl rfl rfl (fun r1 σ1 q1 => ?_)
    obtain ⟨⟨z1, rfl, -⟩, rfl⟩ := q1
    iterate 3 (refine kX_one rfl ?_)
    refine kX_cal (mc_sizeOf L xs d (cP3 σ n w x y) n y hn hρ) rfl (Or.inr rfl) rfl rfl rfl (fun r1 σ1 q1 => ?_)
    obtain ⟨⟨z2, rfl, -⟩, rfl⟩ := q1
    iterate 1 (refine kX_one rfl ?_)
    refine kX_iastN rfl rfl (by decide) (n) (by first | rfl | decide) (by omega) ?_
    refine kX_to [(4, .int (nI n)), (0, .ref 1), (1, .int w), (2, .int x), (3, .int y)] (va_up (cP3 σ n w x y) 5 (upd (σ 5) n (Int32.ofInt 1 + z1 + z2))) rfl rfl rfl rfl ?_
    iterate 5 (refine kX_one rfl ?_)
    refine kX_cal (mc_has L xs (d + 1) _ n x hn hρ) rfl (Or.inr rfl) rfl rfl rfl (fun r1 σ1 q1 => ?_)
    obtain ⟨rfl, rfl⟩ := q1
    repeat refine kX_one rfl ?_
    refine kX_if (fun q2 => ?_) (fun q2 => ?_)
    · exact k82 _ (hgx x (qeq q2))
    · obtain ⟨t, t1, rfl⟩ := isB_ne.mp (qeqF q2)
      iterate 3 (refine kX_one rfl ?_)
      refine kX_baldN rfl rfl (by decide) (t) (by first | rfl | decide) (by omega) ?_
      repeat refine kX_one rfl ?_
      refine kX_if (fun q3 => ?_) (fun q3 => ?_)
      · have q3 : σ 8 t = 0 := qeq q3
        iterate 1 (refine kX_one rfl ?_)
        exact k104 _ 0 (Or.inl rfl) ⟨fun z => absurd z (by decide), fun z => absurd z.1 (hgz t t1 q3)⟩
      · have q3 : σ 8 t ≠ 0 := qeqF q3
        exact k82 _ (hgy t t1 (h1of t t1 q3))
  · have q := isB_ne.mp (qeqF q)
    repeat refine kX_one rfl ?_
    refine kX_ret (i := .ireturn) (len := 1) rfl (Or.inr rfl) rfl (Or.inl ⟨q, rfl, rfl⟩)
/-- a TERM more; V: the new TERM's own rows -/
theorem cT_push {σ τ : kS} {n : Nat} (h : cT σ n) (hn : n < 200) (hc : τ 1 11 = nI (n + 1)) (ho : ∀ u, u < n → τ 2 u = σ 2 u ∧ τ 3 u = σ 3 u ∧ τ 4 u = σ 4 u ∧ τ 8 u = σ 8 u ∧ τ 12 u = σ 12 u ∧ τ 6 u = σ 6 u) (hh : ∀ s, s < 256 → τ 7 s = σ 7 s ∨ (τ 7 s = nI n ∧ 4 ≤ fN (τ 2 n))) (ht : cTt τ n) : cT τ (n + 1) := by
  obtain ⟨h1, h2, h3, h4⟩ := h
  refine ⟨by omega, hc, fun s hs => ?_, fun t htn => ?_⟩
  · rcases hh s hs with e | ⟨e1, e2⟩
    · rw [e]
      rcases h3 s hs with q | ⟨t, t1, t2, t3⟩
      · exact Or.inl q
      · exact Or.inr ⟨t, by omega, t2, by rw [(ho t t1).1]; exact t3⟩
    · exact Or.inr ⟨n, by omega, e1, e2⟩
  · by_cases e : t = n
    · subst e
      exact ht
    · exact cTt_eq (fun u hu => ho u (by omega)) (h4 t (by omega))
theorem cT_01 {σ : kS} {n : Nat} (h : cT σ n) : ∀ z, z < n → σ 8 z = 0 ∨ σ 8 z = 1 := fun z hz => (h.2.2.2 z hz).2.2.2.1
theorem cG_m1 (σ : kS) (t : Nat) (ht : t ≤ 200) : cG σ t (-1) := fun z z1 z2 => absurd z2.symm (nI_m1 (by omega))
end
section
/-! the class: its invariant -/
/-- rows of values: nothing, or a GROUND TERM -/
def cV (σ : kS) (n S : Nat) (A : Nat → Int32) (base : Nat) : Prop := ∀ s k, s < S → k < 6 → A (base + 7 * s + 1 + k) = -1 ∨ ∃ z, z < n ∧ A (base + 7 * s + 1 + k) = nI z ∧ σ 8 z = 1
/-- an EVENT in the cells from a on -/
def cE (σ : kS) (n a : Nat) : Prop := ∃ t m q, t < n ∧ m ≤ 6 ∧ q ≤ 24 ∧ σ a 1 = nI t ∧ σ a 4 = nI m ∧ σ a 7 = nI q ∧ (∀ j, j < m → (∃ p, p < 6 ∧ σ (a + 1) j = nI p) ∧ (∃ so, so ≤ 3 ∧ σ (a + 2) j = nI so) ∧ ∃ f, f ≤ 24 ∧ σ (a + 4) (j + 1) = nI f) ∧ ∀ i, i < q → ∃ t', t' < n ∧ σ (a + 3) i = nI t'
def cR1 (σ : kS) (n r : Nat) : Prop := ∃ v e, v ≤ 6 ∧ e ≤ 6 ∧ σ (23 + 35 * r) 3 = nI v ∧ σ (23 + 35 * r) 5 = nI e ∧ (∀ k, k < v → ∃ so, so ≤ 3 ∧ σ (25 + 35 * r) k = nI so ∧ (σ (24 + 35 * r) k = 1 → so ≤ 2)) ∧ ∀ k, k < e → cE σ n (28 + 35 * r + 5 * k)
def cRo (σ : kS) (n R : Nat) : Prop := R ≤ 4 ∧ σ 13 2 = nI R ∧ ∀ r, r < R → cR1 σ n r
def cSe (σ : kS) (n R S : Nat) : Prop := S ≤ 4 ∧ σ 13 6 = nI S ∧ (∀ s, s < S → ∃ r, r < R ∧ σ 15 s = nI r) ∧ cV σ n S (σ 17) 0
def cCl (σ : kS) (C : Nat) : Prop := C ≤ 6 ∧ σ 13 8 = nI C ∧ ∀ c, c < C → (σ (163 + 3 * c) 0 ≠ 0 → ∃ v, v < 6 ∧ σ (163 + 3 * c) 3 = nI v) ∧ ∃ j, j ≤ 4 ∧ σ (163 + 3 * c) 6 = nI j ∧ ∀ i, i < j → (∃ x, x < 6 ∧ σ (164 + 3 * c) i = nI x) ∧ ∃ y, y < 6 ∧ σ (165 + 3 * c) i = nI y
def cKn (σ : kS) : Prop := ∃ k, k ≤ 20 ∧ σ 13 10 = nI k
/-- what an intruder has, in the cells from K on; its stretch begins at st -/
def cKe (σ : kS) (K st u : Nat) : Prop := (∀ s, s < 256 → σ (K + 1) s = -1 ∨ ∃ g, st ≤ g ∧ g < st + u ∧ σ (K + 1) s = nI g ∧ cSl (σ 2 g) (σ 3 g) (σ 4 g) = nI s) ∧ ∀ g, st ≤ g → g < st + u → (σ 6 g = -1 ∨ ∃ g', st ≤ g' ∧ g' < st + u ∧ σ 6 g = nI g') ∧ ∃ k, 4 ≤ k ∧ k ≤ 9 ∧ σ 2 g = nI k
def cKw (σ : kS) (K st : Nat) : Prop := σ K 1 = nI st ∧ ∃ u ln, u ≤ 576 ∧ ln ≤ 776 ∧ σ K 3 = nI u ∧ σ K 7 = nI ln ∧ (∀ i, i < ln → ∃ g, g < 1928 ∧ σ (K + 2) i = nI g) ∧ cKe σ K st u
/-- .. and what these are of is GROUND -/
def cKc (σ : kS) (n : Nat) (c : Int32) : Prop := c = -1 ∨ (∃ z, z < n ∧ c = nI z ∧ σ 8 z = 1) ∨ ∃ z, 200 ≤ z ∧ z < 2000 ∧ c = nI z
def cKg (σ : kS) (n st u : Nat) : Prop := ∀ g, st ≤ g → g < st + u → cKc σ n (σ 3 g) ∧ cKc σ n (σ 4 g)
def cRu (σ : kS) (n S : Nat) : Prop := σ 181 8 = 0 ∨ (σ 181 8 = 1 ∧ (∃ c, c ≤ 24 ∧ σ 181 7 = nI c ∧ ∀ i, i < c → ∃ s, s < S ∧ σ 183 i = nI s) ∧ cV σ n S (σ 182) 0 ∧ (σ 181 9 = -1 ∨ ∃ g, g ≤ n ∧ σ 181 9 = nI g ∧ (g = n → ∃ u, u ≤ 576 ∧ σ 186 3 = nI u ∧ cKg σ n 200 u)))
def cSr (σ : kS) (n S : Nat) : Prop := ∃ N, N ≤ 600 ∧ σ 196 5 = nI N ∧ (∀ i, i < N → cV σ n S (σ 197) (28 * i)) ∧ (∀ i, 0 < i → i < N → (∃ j, j < i ∧ σ 198 i = nI j) ∧ ∃ s, s < S ∧ σ 199 i = nI s) ∧ (σ 195 9 = -1 ∨ (0 < N ∧ ∃ ln, ln ≤ 24 ∧ σ 195 9 = nI ln ∧ ∀ k, k < ln → ∃ s, s < S ∧ σ 203 k = nI s))
def cQ (σ : kS) : Prop := (∀ j, j < 200 → σ 231 j = 0 ∨ σ 231 j = 1) ∧ ∃ v, v ≤ 22 ∧ σ 222 3 = nI v
/-- all of the class: n TERMS, R ROLES, S SESSIONS, C CLAIMS -/
def cJ (σ : kS) (n R S C : Nat) : Prop := cT σ n ∧ cRo σ n R ∧ cSe σ n R S ∧ cCl σ C ∧ cKn σ ∧ cKw σ 186 200 ∧ cKw σ 204 776 ∧ cKw σ 213 1352 ∧ cRu σ n S ∧ cSr σ n S ∧ cQ σ
/-- the reference's cells are as they were -/
def cHi (σ τ : kS) : Prop := ∀ c, 232 ≤ c → τ c = σ c
theorem cHi_refl (σ : kS) : cHi σ σ := fun _ _ => rfl
theorem cHi_trans {σ τ ρ : kS} (h1 : cHi σ τ) (h2 : cHi τ ρ) : cHi σ ρ := fun c hc => (h2 c hc).trans (h1 c hc)
/-- what a call of the class leaves -/
def cAfter (σ σ' : kS) (R' : Nat) : Prop := cHi σ σ' ∧ ∃ n S C, cJ σ' n R' S C
theorem cAfter_same {σ : kS} {n R S C : Nat} (h : cJ σ n R S C) : cAfter σ σ R := ⟨cHi_refl σ, n, S, C, h⟩
def tC : List Nat := [1, 2, 3, 4, 5, 6, 7, 8, 9, 10, 11, 12]
/-- TERMS may have come: n of them stay GROUND or not; nothing else has changed -/
def cGr (σ τ : kS) (n : Nat) : Prop := (∀ c, c ∉ tC → τ c = σ c) ∧ (∀ u, u < n → τ 8 u = σ 8 u) ∧ ∀ g, 200 ≤ g → τ 2 g = σ 2 g ∧ τ 3 g = σ 3 g ∧ τ 4 g = σ 4 g ∧ τ 6 g = σ 6 g
theorem cGr_refl (σ : kS) (n : Nat) : cGr σ σ n := ⟨fun _ _ => rfl, fun _ _ => rfl, fun _ _ => ⟨rfl, rfl, rfl, rfl⟩⟩
theorem cGr_trans {σ τ ρ : kS} {n m : Nat} (h1 : cGr σ τ n) (h2 : cGr τ ρ m) (hm : n ≤ m) : cGr σ ρ n := ⟨fun c hc => (h2.1 c hc).trans (h1.1 c hc), fun u hu => (h2.2.1 u (by omega)).trans (h1.2.1 u hu), fun g hg => ⟨(h2.2.2 g hg).1.trans (h1.2.2 g hg).1, (h2.2.2 g hg).2.1.trans (h1.2.2 g hg).2.1, (h2.2.2 g hg).2.2.1.trans (h1.2.2 g hg).2.2.1, (h2.2.2 g hg).2.2.2.trans (h1.2.2 g hg).2.2.2⟩⟩
theorem cGr_hi {σ τ : kS} {n : Nat} (h : cGr σ τ n) : cHi σ τ := fun c hc => h.1 c (fun q => by
  simp only [tC, List.mem_cons, List.not_mem_nil, or_false] at q
  omega)
theorem cV_gr {σ τ : kS} {n m S base : Nat} {A : Nat → Int32} (h : cGr σ τ n) (hm : n ≤ m) (hv : cV σ n S A base) : cV τ m S A base := fun s k hs hk => by
  rcases hv s k hs hk with q | ⟨z, z1, z2, z3⟩
  · exact Or.inl q
  · exact Or.inr ⟨z, by omega, z2, by rw [h.2.1 z z1]; exact z3⟩
theorem cE_up {σ τ : kS} {n m a : Nat} (hm : n ≤ m) (e : ∀ i, i < 5 → τ (a + i) = σ (a + i)) (h : cE σ n a) : cE τ m a := by
  obtain ⟨t, mm, q, h1, h2, h3, h4, h5, h6, h7, h8⟩ := h
  have e0 : τ a = σ a := e 0 (by omega)
  refine ⟨t, mm, q, by omega, h2, h3, by rw [e0]; exact h4, by rw [e0]; exact h5, by rw [e0]; exact h6, ?_, ?_⟩
  · rw [e 1 (by omega), e 2 (by omega), e 4 (by omega)]
    exact h7
  · rw [e 3 (by omega)]
    intro i hi
    obtain ⟨t', t1, t2⟩ := h8 i hi
    exact ⟨t', by omega, t2⟩
theorem tC_lt {c : Nat} (h : c ∈ tC) : c < 13 := by
  simp only [tC, List.mem_cons, List.not_mem_nil, or_false] at h
  omega
theorem cRo_gr {σ τ : kS} {n m R : Nat} (hm : n ≤ m) (e : ∀ c, 13 ≤ c → c < 163 → τ c = σ c) (h : cRo σ n R) : cRo τ m R := by
  obtain ⟨h1, h2, h3⟩ := h
  refine ⟨h1, by rw [e 13 (by omega) (by omega)]; exact h2, fun r hr => ?_⟩
  obtain ⟨v, ev, a1, a2, a3, a4, a5, a6⟩ := h3 r hr
  refine ⟨v, ev, a1, a2, by rw [e _ (by omega) (by omega)]; exact a3, by rw [e _ (by omega) (by omega)]; exact a4, by rw [e (25 + 35 * r) (by omega) (by omega), e (24 + 35 * r) (by omega) (by omega)]; exact a5, fun k hk => cE_up hm (fun i hi => e _ (by omega) (by omega)) (a6 k hk)⟩
theorem cKe_eq {σ τ : kS} {K st u : Nat} (hst : 200 ≤ st) (e1 : τ (K + 1) = σ (K + 1)) (e : ∀ g, 200 ≤ g → τ 2 g = σ 2 g ∧ τ 3 g = σ 3 g ∧ τ 4 g = σ 4 g ∧ τ 6 g = σ 6 g) (h : cKe σ K st u) : cKe τ K st u := by
  obtain ⟨h1, h2⟩ := h
  refine ⟨fun s hs => ?_, fun g g1 g2 => ?_⟩
  · rw [e1]
    rcases h1 s hs with q | ⟨g, q1, q2, q3, q4⟩
    · exact Or.inl q
    · refine Or.inr ⟨g, q1, q2, q3, ?_⟩
      rw [(e g (by omega)).1, (e g (by omega)).2.1, (e g (by omega)).2.2.1]
      exact q4
  · rw [(e g (by omega)).2.2.2, (e g (by omega)).1]
    exact h2 g g1 g2
theorem cKw_eq {σ τ : kS} {K st : Nat} (hst : 200 ≤ st) (e0 : τ K = σ K) (e1 : τ (K + 1) = σ (K + 1)) (e2 : τ (K + 2) = σ (K + 2)) (e : ∀ g, 200 ≤ g → τ 2 g = σ 2 g ∧ τ 3 g = σ 3 g ∧ τ 4 g = σ 4 g ∧ τ 6 g = σ 6 g) (h : cKw σ K st) : cKw τ K st := by
  obtain ⟨h1, u, ln, h2, h3, h4, h5, h6, h7⟩ := h
  exact ⟨by rw [e0]; exact h1, u, ln, h2, h3, by rw [e0]; exact h4, by rw [e0]; exact h5, by rw [e2]; exact h6, cKe_eq hst e1 e h7⟩
theorem cKg_gr {σ τ : kS} {n st u : Nat} (hst : 200 ≤ st) (h : cGr σ τ n) (hg : cKg σ n st u) : cKg τ n st u := fun g g1 g2 => by
  rw [(h.2.2 g (by omega)).2.1, (h.2.2 g (by omega)).2.2.1]
  have key : ∀ c, cKc σ n c → cKc τ n c := fun c hc => by
    rcases hc with q | ⟨z, z1, z2, z3⟩ | q
    · exact Or.inl q
    · exact Or.inr (Or.inl ⟨z, z1, z2, by rw [h.2.1 z z1]; exact z3⟩)
    · exact Or.inr (Or.inr q)
  exact ⟨key _ (hg g g1 g2).1, key _ (hg g g1 g2).2⟩
/-- TERMS may have come: all stays -/
theorem cJ_gr {σ τ : kS} {n m R S C : Nat} (h : cJ σ n R S C) (hG : cGr σ τ n) (hm : n ≤ m) (hT : cT τ m) : cJ τ m R S C := by
  obtain ⟨h1, h2, h3, h4, h5, h6, h7, h8, h9, h10, h11⟩ := h
  have e : ∀ c, 13 ≤ c → τ c = σ c := fun c hc => hG.1 c (fun q => by have := tC_lt q; omega)
  refine ⟨hT, cRo_gr hm (fun c c1 _ => e c c1) h2, ?_, ?_, ?_, cKw_eq (by decide) (e _ (by decide)) (e _ (by decide)) (e _ (by decide)) hG.2.2 h6, cKw_eq (by decide) (e _ (by decide)) (e _ (by decide)) (e _ (by decide)) hG.2.2 h7, cKw_eq (by decide) (e _ (by decide)) (e _ (by decide)) (e _ (by decide)) hG.2.2 h8, ?_, ?_, ?_⟩
  · obtain ⟨a1, a2, a3, a4⟩ := h3
    refine ⟨a1, by rw [e 13 (by decide)]; exact a2, by rw [e 15 (by decide)]; exact a3, ?_⟩
    rw [e 17 (by decide)]
    exact cV_gr hG hm a4
  · obtain ⟨a1, a2, a3⟩ := h4
    refine ⟨a1, by rw [e 13 (by decide)]; exact a2, fun c hc => ?_⟩
    rw [e (163 + 3 * c) (by omega), e (164 + 3 * c) (by omega), e (165 + 3 * c) (by omega)]
    exact a3 c hc
  · unfold cKn
    rw [e 13 (by decide)]
    exact h5
  · unfold cRu
    rw [e 181 (by decide), e 183 (by decide), e 182 (by decide), e 186 (by decide)]
    rcases h9 with q | ⟨q1, q2, q3, q4⟩
    · exact Or.inl q
    · refine Or.inr ⟨q1, q2, cV_gr hG hm q3, ?_⟩
      rcases q4 with q4 | ⟨g, g1, g2, g3⟩
      · exact Or.inl q4
      · refine Or.inr ⟨g, by omega, g2, fun hg => ?_⟩
        have hmn : m = n := by omega
        subst hmn
        obtain ⟨u, u1, u2, u3⟩ := g3 hg
        exact ⟨u, u1, u2, cKg_gr (by decide) hG u3⟩
  · obtain ⟨N, a1, a2, a3, a4, a5⟩ := h10
    refine ⟨N, a1, by rw [e 196 (by decide)]; exact a2, fun i hi => ?_, ?_, ?_⟩
    · rw [e 197 (by decide)]
      exact cV_gr hG hm (a3 i hi)
    · rw [e 198 (by decide), e 199 (by decide)]
      exact a4
    · rw [e 195 (by decide), e 203 (by decide)]
      exact a5
  · unfold cQ
    rw [e 231 (by decide), e 222 (by decide)]
    exact h11
end
section
/-! the class: new TERMS -/
theorem cGr_put (σ : kS) (n : Nat) (w x y z g : Int32) (hn : n < 200) : cGr σ (cPut σ n w x y z g) n := by
  refine ⟨fun c hc => ?_, fun u hu => pk_un (by omega), fun g hg => ⟨pk_un (by omega), pk_un (by omega), pk_un (by omega), rfl⟩⟩
  simp only [tC, List.mem_cons, List.not_mem_nil, or_false, not_or] at hc
  simp [cPut, va_up, hc]
theorem cGr_up {σ : kS} {n c : Nat} {f : Nat → Int32} (hc : c = 9 ∨ c = 10 ∨ c = 11 ∨ c = 12 ∨ c = 7) : cGr σ (va_up σ c f) n := by
  rcases hc with rfl | rfl | rfl | rfl | rfl
  all_goals
    refine ⟨fun e he => ?_, fun u hu => rfl, fun g hg => ⟨rfl, rfl, rfl, rfl⟩⟩
    simp only [tC, List.mem_cons, List.not_mem_nil, or_false, not_or] at he
    simp [va_up, he]
/-- the new TERM's own word, by its rows -/
theorem cTt_new {τ : kS} {n k : Nat} {x y g : Int32} (e1 : τ 2 n = nI k) (e2 : τ 3 n = x) (e3 : τ 4 n = y) (e4 : τ 8 n = g) (hk : k ≤ 9) (hx : cCh n x) (hy : cCh n y) (hg : g = 0 ∨ g = 1) (h3 : k = 3 → g = 0 ∧ ∃ p, p < 6 ∧ τ 12 n = nI p) (hgc : k ≠ 3 → (g = 1 ↔ cG τ n x ∧ cG τ n y)) (hl : k ≤ 3 → x = -1 ∧ y = -1) (ho : 4 ≤ k → g = 0 → ∃ x', x' < n ∧ x = nI x' ∧ ((∃ y', y' < n ∧ y = nI y') ∨ (y = -1 ∧ (k = 7 ∨ k = 9)))) (hnx : 4 ≤ k → τ 6 n = -1 ∨ ∃ u, u < n ∧ τ 6 n = nI u ∧ 4 ≤ fN (τ 2 u)) : cTt τ n := by
  have hf : fN (nI k) = k := fN_nI (by omega)
  have h3' : nI k = nI 3 ↔ k = 3 := ⟨fun q => nI_inj q, fun q => by rw [q]⟩
  unfold cTt
  rw [e1, e2, e3, e4, hf]
  refine ⟨⟨k, hk, rfl⟩, hx, hy, hg, fun q => h3 (h3'.mp q), fun q => hgc (fun z => q (h3'.mpr z)), hl, fun q q2 => ?_, hnx⟩
  obtain ⟨x', x1, x2, x3⟩ := ho q q2
  refine ⟨x', x1, x2, ?_⟩
  rcases x3 with x3 | ⟨x3, x4⟩
  · exact Or.inl x3
  · exact Or.inr ⟨x3, x4.elim (fun z => Or.inl (by rw [z])) (fun z => Or.inr (by rw [z]))⟩
set_option maxRecDepth 100000 in
set_option maxHeartbeats 4000000 in
theorem mc_newAtom (L : Nat) (xs : Nat → Int32) (d : Nat) (σ : kS) (n k : Nat) (b : Int32) (h : cT σ n) (hk : k ≤ 2) (hb : b = 0 ∨ b = 1) : kXM kT L xs (d + 4) 104 [.ref 1, .int (nI k), .int b] σ (fun r σ' => (n = 200 ∧ r = some (.int (-1)) ∧ σ = σ') ∨ (n < 200 ∧ r = some (.int (nI n)) ∧ cT σ' (n + 1) ∧ cGr σ σ' n ∧ σ' 8 n = 1 ∧ σ' 2 n = nI k)) := by
  unfold kXM
  iterate 4 (refine kX_one rfl ?_)
  refine kX_cal (mc_put L xs d σ n (nI k) (-1) (-1) h.1 h.2.1 (cT_01 h)) rfl (Or.inr rfl) rfl rfl rfl (fun r1 σ1 q1 => ?_)
  rcases q1 with ⟨rfl, rfl, rfl⟩ | ⟨hn, rfl, z, g, g1, g2, rfl⟩
  · repeat refine kX_one rfl ?_
    refine kX_ret (i := .ireturn) (len := 1) rfl (Or.inr rfl) rfl (Or.inl ⟨rfl, rfl, rfl⟩)
  · have hg : g = 1 := g2.mpr ⟨cG_m1 σ n (by omega), cG_m1 σ n (by omega)⟩
    subst hg
    iterate 2 (refine kX_one rfl ?_)
    repeat refine kX_one rfl ?_
    refine kX_if (fun q => ?_) (fun q => ?_)
    · exact absurd (qeq q) (nI_m1 (by omega))
    · iterate 4 (refine kX_one rfl ?_)
      refine kX_bastN rfl rfl (by decide) (n) (by first | rfl | decide) (hn) (hb) ?_
      repeat refine kX_one rfl ?_
      refine kX_ret (i := .ireturn) (len := 1) rfl (Or.inr rfl) rfl (Or.inr ⟨hn, rfl, ?_, cGr_trans (cGr_put σ n _ _ _ _ _ hn) (cGr_up (Or.inl rfl)) (Nat.le_refl _), pk_us, pk_us⟩)
      refine cT_push h hn rfl (fun u hu => ⟨pk_un (by omega), pk_un (by omega), pk_un (by omega), pk_un (by omega), rfl, rfl⟩) (fun s hs => Or.inl rfl) ?_
      exact cTt_new (k := k) pk_us pk_us pk_us pk_us (by omega) (Or.inl rfl) (Or.inl rfl) (Or.inr rfl) (fun q => by omega) (fun _ => ⟨fun _ => ⟨cG_m1 _ n (by omega), cG_m1 _ n (by omega)⟩, fun _ => rfl⟩) (fun _ => ⟨rfl, rfl⟩) (fun q => by omega) (fun q => by omega)
set_option maxRecDepth 100000 in
set_option maxHeartbeats 4000000 in
theorem mc_newVariable (L : Nat) (xs : Nat → Int32) (d : Nat) (σ : kS) (n p : Nat) (r0 so : Int32) (h : cT σ n) (hp : p < 6) : kXM kT L xs (d + 4) 105 [.ref 1, .int r0, .int (nI p), .int so] σ (fun r σ' => (n = 200 ∧ r = some (.int (-1)) ∧ σ = σ') ∨ (n < 200 ∧ r = some (.int (nI n)) ∧ cT σ' (n + 1) ∧ cGr σ σ' n)) := by
  unfold kXM
  iterate 4 (refine kX_one rfl ?_)
  refine kX_cal (mc_put L xs d σ n (nI 3) (-1) (-1) h.1 h.2.1 (cT_01 h)) rfl (Or.inr rfl) rfl rfl rfl (fun r1 σ1 q1 => ?_)
  rcases q1 with ⟨rfl, rfl, rfl⟩ | ⟨hn, rfl, z, g, g1, g2, rfl⟩
  · repeat refine kX_one rfl ?_
    refine kX_ret (i := .ireturn) (len := 1) rfl (Or.inr rfl) rfl (Or.inl ⟨rfl, rfl, rfl⟩)
  · iterate 3 (refine kX_one rfl ?_)
    repeat refine kX_one rfl ?_
    refine kX_if (fun q => ?_) (fun q => ?_)
    · exact absurd (qeq q) (nI_m1 (by omega))
    · iterate 4 (refine kX_one rfl ?_)
      refine kX_bastN rfl rfl (by decide) (n) (by first | rfl | decide) (hn) (Or.inl rfl) ?_
      iterate 4 (refine kX_one rfl ?_)
      refine kX_iastN rfl rfl (by decide) (n) (by first | rfl | decide) (hn) ?_
      iterate 4 (refine kX_one rfl ?_)
      refine kX_iastN rfl rfl (by decide) (n) (by first | rfl | decide) (hn) ?_
      iterate 4 (refine kX_one rfl ?_)
      refine kX_iastN rfl rfl (by decide) (n) (by first | rfl | decide) (hn) ?_
      repeat refine kX_one rfl ?_
      have e : ∀ τ : kS, τ = va_up (va_up (va_up (va_up (cPut σ n (nI 3) (-1) (-1) z g) 8 (upd (upd (σ 8) n g) n 0)) 10 (upd (σ 10) n r0)) 12 (upd (σ 12) n (nI p))) 11 (upd (σ 11) n so) → cT τ (n + 1) ∧ cGr σ τ n := by
        intro τ hτ
        subst hτ
        constructor
        · refine cT_push h hn rfl (fun u hu => ⟨pk_un (by omega), pk_un (by omega), pk_un (by omega), (pk_un (by omega)).trans (pk_un (by omega)), pk_un (by omega), rfl⟩) (fun s hs => Or.inl rfl) ?_
          exact cTt_new (k := 3) pk_us pk_us pk_us pk_us (by omega) (Or.inl rfl) (Or.inl rfl) (Or.inl rfl) (fun _ => ⟨rfl, p, hp, pk_us⟩) (fun q => absurd rfl q) (fun _ => ⟨rfl, rfl⟩) (fun q => by omega) (fun q => by omega)
        · refine ⟨fun c hc => ?_, fun u hu => (pk_un (by omega)).trans (pk_un (by omega)), fun g hg => ⟨pk_un (by omega), pk_un (by omega), pk_un (by omega), rfl⟩⟩
          simp only [tC, List.mem_cons, List.not_mem_nil, or_false, not_or] at hc
          simp [cPut, va_up, hc]
      refine kX_ret (i := .ireturn) (len := 1) rfl (Or.inr rfl) rfl (Or.inr ⟨hn, rfl, e _ rfl⟩)
set_option maxRecDepth 100000 in
set_option maxHeartbeats 4000000 in
theorem mc_newCompound (L : Nat) (xs : Nat → Int32) (d : Nat) (σ : kS) (n k : Nat) (x y : Int32) (h : cT σ n) (hk : 4 ≤ k) (hk9 : k ≤ 9) (hx : cCh n x) (hy : cCh n y) (ho : ¬ (cG σ n x ∧ cG σ n y) → ∃ x', x' < n ∧ x = nI x' ∧ ((∃ y', y' < n ∧ y = nI y') ∨ (y = -1 ∧ (k = 7 ∨ k = 9)))) : kXM kT L xs (d + 4) 106 [.ref 1, .int (nI k), .int x, .int y] σ (fun r σ' => (n = 200 ∧ r = some (.int (-1)) ∧ σ = σ') ∨ (n < 200 ∧ r = some (.int (nI n)) ∧ cT σ' (n + 1) ∧ cGr σ σ' n ∧ (cG σ n x ∧ cG σ n y → σ' 8 n = 1))) := by
  unfold kXM
  iterate 4 (refine kX_one rfl ?_)
  refine kX_cal (mc_put L xs d σ n (nI k) x y h.1 h.2.1 (cT_01 h)) rfl (Or.inr rfl) rfl rfl rfl (fun r1 σ1 q1 => ?_)
  rcases q1 with ⟨rfl, rfl, rfl⟩ | ⟨hn, rfl, z, g, g1, g2, rfl⟩
  · repeat refine kX_one rfl ?_
    refine kX_ret (i := .ireturn) (len := 1) rfl (Or.inr rfl) rfl (Or.inl ⟨rfl, rfl, rfl⟩)
  · iterate 3 (refine kX_one rfl ?_)
    repeat refine kX_one rfl ?_
    refine kX_if (fun q => ?_) (fun q => ?_)
    · exact absurd (qeq q) (nI_m1 (by omega))
    · iterate 3 (refine kX_one rfl ?_)
      refine kX_cal (mc_slot L xs (d + 2) _ (nI k) x y) rfl (Or.inr rfl) rfl rfl rfl (fun r1 σ1 q1 => ?_)
      obtain ⟨rfl, rfl⟩ := q1
      obtain ⟨sl, s1, s2⟩ := cSl_lt (nI k) x y
      iterate 7 (refine kX_one rfl ?_)
      refine kX_ialdN rfl rfl (by decide) (sl) (s2) (s1) ?_
      refine kX_iastN rfl rfl (by decide) (n) (by first | rfl | decide) (by omega) ?_
      iterate 4 (refine kX_one rfl ?_)
      refine kX_iastN rfl rfl (by decide) (sl) (s2) (s1) ?_
      repeat refine kX_one rfl ?_
      have hh := h.2.2.1 sl s1
      have e : ∀ τ : kS, τ = va_up (va_up (cPut σ n (nI k) x y z g) 6 (upd (σ 6) n (σ 7 sl))) 7 (upd (σ 7) sl (nI n)) → cT τ (n + 1) ∧ cGr σ τ n ∧ (cG σ n x ∧ cG σ n y → τ 8 n = 1) := by
        intro τ hτ
        subst hτ
        have hG : ∀ c, cG (va_up (va_up (cPut σ n (nI k) x y z g) 6 (upd (σ 6) n (σ 7 sl))) 7 (upd (σ 7) sl (nI n))) n c ↔ cG σ n c := fun c => cG_eq (fun u hu => pk_un (by omega))
        refine ⟨?_, ?_, fun q => pk_us.trans (g2.mpr q)⟩
        · refine cT_push h hn rfl (fun u hu => ⟨pk_un (by omega), pk_un (by omega), pk_un (by omega), pk_un (by omega), rfl, pk_un (by omega)⟩) (fun s hs => ?_) ?_
          · by_cases e : s = sl
            · subst e
              refine Or.inr ⟨pk_us, ?_⟩
              show 4 ≤ fN (upd (σ 2) n (nI k) n)
              rw [pk_us, fN_nI (by omega)]
              exact hk
            · exact Or.inl (pk_un e)
          · refine cTt_new (k := k) pk_us pk_us pk_us pk_us hk9 hx hy g1 (fun q => by omega) (fun _ => by rw [hG, hG]; exact g2) (fun q => by omega) (fun _ q => ho (fun z => ?_)) (fun _ => ?_)
            · rw [g2.mpr z] at q
              exact absurd q (by decide)
            · show upd (σ 6) n (σ 7 sl) n = -1 ∨ ∃ u, u < n ∧ upd (σ 6) n (σ 7 sl) n = nI u ∧ 4 ≤ fN (upd (σ 2) n (nI k) u)
              rw [pk_us]
              rcases hh with q | ⟨u, u1, u2, u3⟩
              · exact Or.inl q
              · exact Or.inr ⟨u, u1, u2, by rw [pk_un (by omega)]; exact u3⟩
        · refine ⟨fun c hc => ?_, fun u hu => pk_un (by omega), fun g hg => ⟨pk_un (by omega), pk_un (by omega), pk_un (by omega), pk_un (by omega)⟩⟩
          simp only [tC, List.mem_cons, List.not_mem_nil, or_false, not_or] at hc
          simp [cPut, va_up, hc]
      refine kX_ret (i := .ireturn) (len := 1) rfl (Or.inr rfl) rfl (Or.inr ⟨hn, rfl, e _ rfl⟩)

set_option maxRecDepth 100000 in
set_option maxHeartbeats 4000000 in
theorem mc_findFrom (L : Nat) (xs : Nat → Int32) (d : Nat) (σ : kS) (P : Nat → Prop) (c w x y : Int32) (hP : ∀ t, P t → t < 1928) (hn : ∀ t, P t → σ 6 t = -1 ∨ ∃ u, P u ∧ σ 6 t = nI u) (hc : c = -1 ∨ ∃ u, P u ∧ c = nI u) : kXM kT L xs (d + 1) 103 [.ref 1, .int c, .int w, .int x, .int y] σ (fun r σ' => (r = some (.int (-1)) ∨ ∃ t, P t ∧ r = some (.int (nI t)) ∧ σ 2 t = w ∧ σ 3 t = x ∧ σ 4 t = y) ∧ σ = σ') := by
  unfold kXM
  have k79 : ∀ lv, kX kT L xs (d + 1) 103 79 lv [] σ (fun r σ' => (r = some (.int (-1)) ∨ ∃ t, P t ∧ r = some (.int (nI t)) ∧ σ 2 t = w ∧ σ 3 t = x ∧ σ 4 t = y) ∧ σ = σ') := by
    intro lv
    iterate 1 (refine kX_one rfl ?_)
    refine kX_ret (i := .ireturn) (len := 1) rfl (Or.inr rfl) rfl (⟨Or.inl rfl, rfl⟩)
  have loop : ∀ q : Nat × Int32, (q.1 ≤ 1928 ∧ (q.2 = -1 ∨ ∃ u, P u ∧ q.2 = nI u)) → kX kT L xs (d + 1) 103 6 [(6, .int (nI q.1)), (5, .int q.2), (0, .ref 1), (1, .int c), (2, .int w), (3, .int x), (4, .int y)] [] σ (fun r σ' => (r = some (.int (-1)) ∨ ∃ t, P t ∧ r = some (.int (nI t)) ∧ σ 2 t = w ∧ σ 3 t = x ∧ σ 4 t = y) ∧ σ = σ') := by
    refine kX_while (fun q : Nat × Int32 => [(6, .int (nI q.1)), (5, .int q.2), (0, .ref 1), (1, .int c), (2, .int w), (3, .int x), (4, .int y)]) (fun _ => σ) _ (fun q => 1928 - q.1) ?_
    rintro ⟨m, a⟩ ⟨i1, i2⟩ ih
    dsimp only at i1 i2 ih ⊢
    iterate 2 (refine kX_one rfl ?_)
    repeat refine kX_one rfl ?_
    refine kX_if (fun q => ?_) (fun q => ?_)
    · exact k79 _
    · have q := qgeF q m 1928
      rcases i2 with rfl | ⟨t, hPt, rfl⟩
      · iterate 2 (refine kX_one rfl ?_)
        exact k79 _
      · have ht := hP t hPt
        iterate 1 (refine kX_one rfl ?_)
        repeat refine kX_one rfl ?_
        refine kX_ifF (decide_eq_false (nI_pos (by omega))) ?_
        iterate 2 (refine kX_one rfl ?_)
        repeat refine kX_one rfl ?_
        refine kX_if (fun q2 => ?_) (fun q2 => ?_)
        · have q2 := qge q2 t 1928
          omega
        · have k64 : kX kT L xs (d + 1) 103 64 [(6, .int (nI m)), (5, .int (nI t)), (0, .ref 1), (1, .int c), (2, .int w), (3, .int x), (4, .int y)] [] σ (fun r σ' => (r = some (.int (-1)) ∨ ∃ t, P t ∧ r = some (.int (nI t)) ∧ σ 2 t = w ∧ σ 3 t = x ∧ σ 4 t = y) ∧ σ = σ') := by
            iterate 3 (refine kX_one rfl ?_)
            refine kX_ialdN rfl rfl (by decide) (t) (by first | rfl | decide) (ht) ?_
            iterate 3 (refine kX_one rfl ?_)
            have := ih (m + 1, σ 6 t) ⟨q, hn t hPt⟩ (by simp only; omega)
            dsimp only at this
            rw [← nI_1] at this
            exact kX_lv _ rfl rfl rfl this
          iterate 3 (refine kX_one rfl ?_)
          refine kX_ialdN rfl rfl (by decide) (t) (by first | rfl | decide) (ht) ?_
          iterate 1 (refine kX_one rfl ?_)
          repeat refine kX_one rfl ?_
          refine kX_if (fun q3 => ?_) (fun q3 => ?_)
          · exact k64
          · have q3 : σ 2 t = w := qneF q3
            iterate 3 (refine kX_one rfl ?_)
            refine kX_ialdN rfl rfl (by decide) (t) (by first | rfl | decide) (ht) ?_
            iterate 1 (refine kX_one rfl ?_)
            repeat refine kX_one rfl ?_
            refine kX_if (fun q4 => ?_) (fun q4 => ?_)
            · exact k64
            · have q4 : σ 3 t = x := qneF q4
              iterate 3 (refine kX_one rfl ?_)
              refine kX_ialdN rfl rfl (by decide) (t) (by first | rfl | decide) (ht) ?_
              iterate 1 (refine kX_one rfl ?_)
              repeat refine kX_one rfl ?_
              refine kX_if (fun q5 => ?_) (fun q5 => ?_)
              · exact k64
              · have q5 : σ 4 t = y := qneF q5
                iterate 1 (refine kX_one rfl ?_)
                refine kX_ret (i := .ireturn) (len := 1) rfl (Or.inr rfl) rfl (⟨Or.inr ⟨t, hPt, rfl, q3, q4, q5⟩, rfl⟩)
  iterate 4 (refine kX_one rfl ?_)
  exact kX_lv _ rfl rfl rfl (loop (0, c) ⟨Nat.zero_le _, hc⟩)
end
section
/-! the class: calls about TERMS -/
set_option maxRecDepth 100000 in
set_option maxHeartbeats 4000000 in
theorem mc_find (L : Nat) (xs : Nat → Int32) (d : Nat) (σ : kS) (n : Nat) (w x y : Int32) (h : cT σ n) : kXM kT L xs (d + 2) 102 [.ref 1, .int w, .int x, .int y] σ (fun r σ' => (r = some (.int (-1)) ∨ ∃ t, (t < n ∧ 4 ≤ fN (σ 2 t)) ∧ r = some (.int (nI t)) ∧ σ 2 t = w ∧ σ 3 t = x ∧ σ 4 t = y) ∧ σ = σ') := by
  have hn := h.1
  unfold kXM
  iterate 6 (refine kX_one rfl ?_)
  refine kX_cal (mc_slot L xs d σ w x y) rfl (Or.inr rfl) rfl rfl rfl (fun r1 σ1 q1 => ?_)
  obtain ⟨rfl, rfl⟩ := q1
  obtain ⟨sl, s1, s2⟩ := cSl_lt w x y
  refine kX_ialdN rfl rfl (by decide) (sl) (s2) (s1) ?_
  iterate 3 (refine kX_one rfl ?_)
  refine kX_cal (mc_findFrom L xs d σ (fun t => t < n ∧ 4 ≤ fN (σ 2 t)) (σ 7 sl) w x y (fun t ht => by omega) (fun t ht => ?_) ?_) rfl (Or.inr rfl) rfl rfl rfl (fun r1 σ1 q1 => ?_)
  · rcases (h.2.2.2 t ht.1).2.2.2.2.2.2.2.2 ht.2 with q | ⟨u, u1, u2, u3⟩
    · exact Or.inl q
    · exact Or.inr ⟨u, ⟨by omega, u3⟩, u2⟩
  · rcases h.2.2.1 sl s1 with q | ⟨u, u1, u2, u3⟩
    · exact Or.inl q
    · exact Or.inr ⟨u, ⟨u1, u3⟩, u2⟩
  · obtain ⟨hq, rfl⟩ := q1
    rcases hq with rfl | ⟨t, t1, rfl, t2⟩
    · refine kX_ret (i := .ireturn) (len := 1) rfl (Or.inr rfl) rfl (⟨Or.inl rfl, rfl⟩)
    · refine kX_ret (i := .ireturn) (len := 1) rfl (Or.inr rfl) rfl (⟨Or.inr ⟨t, t1, rfl, t2⟩, rfl⟩)
set_option maxRecDepth 100000 in
set_option maxHeartbeats 4000000 in
theorem mc_compound (L : Nat) (xs : Nat → Int32) (d : Nat) (σ : kS) (n R S C k : Nat) (x y : Int32) (h : cJ σ n R S C) (hk : 4 ≤ k) (hk9 : k ≤ 9) (hx : ∃ x', x' < n ∧ x = nI x') (hy : (∃ y', y' < n ∧ y = nI y') ∨ (y = -1 ∧ (k = 7 ∨ k = 9))) : kXM kT L xs (d + 5) 142 [.ref 0, .int (nI k), .int x, .int y] σ (fun r σ' => (∃ x, r = some (.int x)) ∧ cAfter σ σ' R) := by
  have hT := h.1
  have hn := hT.1
  unfold kXM
  iterate 4 (refine kX_one rfl ?_)
  refine kX_cal (mc_sizeOf L xs (d + 2) σ n x hn hT.2.1) rfl (Or.inr rfl) rfl rfl rfl (fun r1 σ1 q1 => ?_)
  obtain ⟨⟨z1, rfl, -⟩, rfl⟩ := q1
  iterate 4 (refine kX_one rfl ?_)
  refine kX_cal (mc_sizeOf L xs (d + 2) σ n y hn hT.2.1) rfl (Or.inr rfl) rfl rfl rfl (fun r1 σ1 q1 => ?_)
  obtain ⟨⟨z2, rfl, -⟩, rfl⟩ := q1
  iterate 2 (refine kX_one rfl ?_)
  repeat refine kX_one rfl ?_
  refine kX_if (fun q => ?_) (fun q => ?_)
  · iterate 5 (refine kX_one rfl ?_)
    refine kX_cal (mc_find L xs (d + 2) σ n (nI k) x y hT) rfl (Or.inr rfl) rfl rfl rfl (fun r1 σ1 q1 => ?_)
    obtain ⟨hq, rfl⟩ := q1
    rcases hq with rfl | ⟨t, t1, rfl, -⟩
    · iterate 6 (refine kX_one rfl ?_)
      refine kX_cal (mc_isFull L xs (d + 3) σ n hn hT.2.1) rfl (Or.inr rfl) rfl rfl rfl (fun r1 σ1 q1 => ?_)
      obtain ⟨rfl, rfl⟩ := q1
      repeat refine kX_one rfl ?_
      refine kX_if (fun q2 => ?_) (fun q2 => ?_)
      · iterate 5 (refine kX_one rfl ?_)
        refine kX_cal (mc_newCompound L xs d σ n k x y hT hk hk9 ?_ ?_ (fun _ => ?_)) rfl (Or.inr rfl) rfl rfl rfl (fun r1 σ1 q1 => ?_)
        · obtain ⟨x', x1, rfl⟩ := hx
          exact Or.inr ⟨x', by omega, rfl, Or.inl x1⟩
        · rcases hy with ⟨y', y1, rfl⟩ | ⟨rfl, -⟩
          · exact Or.inr ⟨y', by omega, rfl, Or.inl y1⟩
          · exact Or.inl rfl
        · obtain ⟨x', x1, x2⟩ := hx
          exact ⟨x', x1, x2, hy⟩
        · rcases q1 with ⟨rfl, rfl, rfl⟩ | ⟨hlt, rfl, g1, g2, -⟩
          · refine kX_ret (i := .ireturn) (len := 1) rfl (Or.inr rfl) rfl (⟨⟨_, rfl⟩, cAfter_same h⟩)
          · refine kX_ret (i := .ireturn) (len := 1) rfl (Or.inr rfl) rfl (⟨⟨_, rfl⟩, cGr_hi g2, n + 1, S, C, cJ_gr h g2 (by omega) g1⟩)
      · repeat refine kX_one rfl ?_
        refine kX_ret (i := .ireturn) (len := 1) rfl (Or.inr rfl) rfl (⟨⟨_, rfl⟩, cAfter_same h⟩)
    · iterate 3 (refine kX_one rfl ?_)
      repeat refine kX_one rfl ?_
      refine kX_if (fun q2 => ?_) (fun q2 => ?_)
      · exact absurd (qeq q2) (nI_m1 (by omega))
      · repeat refine kX_one rfl ?_
        refine kX_ret (i := .ireturn) (len := 1) rfl (Or.inr rfl) rfl (⟨⟨_, rfl⟩, cAfter_same h⟩)
  · repeat refine kX_one rfl ?_
    refine kX_ret (i := .ireturn) (len := 1) rfl (Or.inr rfl) rfl (⟨⟨_, rfl⟩, cAfter_same h⟩)
set_option maxRecDepth 100000 in
set_option maxHeartbeats 4000000 in
theorem mc_asNumber (L : Nat) (xs : Nat → Int32) (d : Nat) (σ : kS) (x : Int32) : kXM kT L xs (d + 1) 139 [.int x] σ (fun r σ' => r = some (.int (isB (x ≠ 0))) ∧ σ = σ') := by
  unfold kXM
  repeat refine kX_one rfl ?_
  refine kX_if (fun q => ?_) (fun q => ?_)
  · have q : x = 0 := qeq q
    repeat refine kX_one rfl ?_
    refine kX_ret (i := .ireturn) (len := 1) rfl (Or.inr rfl) rfl (⟨rF (fun z => z q), rfl⟩)
  · have q : x ≠ 0 := qeqF q
    repeat refine kX_one rfl ?_
    refine kX_ret (i := .ireturn) (len := 1) rfl (Or.inr rfl) rfl (⟨rT q, rfl⟩)
set_option maxRecDepth 100000 in
set_option maxHeartbeats 4000000 in
theorem mc_orNone (L : Nat) (xs : Nat → Int32) (d : Nat) (σ : kS) (x : Int32) : kXM kT L xs (d + 1) 140 [.int x] σ (fun r σ' => r = some (.int (if x = -1 then -6 else x)) ∧ σ = σ') := by
  unfold kXM
  repeat refine kX_one rfl ?_
  refine kX_if (fun q => ?_) (fun q => ?_)
  · have q : x ≠ -1 := qne q
    repeat refine kX_one rfl ?_
    refine kX_ret (i := .ireturn) (len := 1) rfl (Or.inr rfl) rfl (⟨by rw [if_neg q], rfl⟩)
  · have q : x = -1 := qneF q
    repeat refine kX_one rfl ?_
    refine kX_ret (i := .ireturn) (len := 1) rfl (Or.inr rfl) rfl (⟨by rw [if_pos q]; rfl, rfl⟩)
set_option maxRecDepth 100000 in
set_option maxHeartbeats 4000000 in
theorem mk_agent (L : Nat) (xs : Nat → Int32) (d : Nat) (σ : kS) (n R S C : Nat) (b : Int32) (hb : b = 0 ∨ b = 1) (h : cJ σ n R S C) : kXM kT L xs (d + 5) 109 [.ref 0, .int b] σ (fun r σ' => (∃ x, r = some (.int x)) ∧ cAfter σ σ' R) := by
  have hT := h.1
  unfold kXM
  iterate 2 (refine kX_one rfl ?_)
  refine kX_cal (mc_isFull L xs (d + 3) σ n hT.1 hT.2.1) rfl (Or.inr rfl) rfl rfl rfl (fun r1 σ1 q1 => ?_)
  obtain ⟨rfl, rfl⟩ := q1
  repeat refine kX_one rfl ?_
  refine kX_if (fun q => ?_) (fun q => ?_)
  · iterate 4 (refine kX_one rfl ?_)
    refine kX_cal (mc_newAtom L xs d σ n 0 b hT (by decide) hb) rfl (Or.inr rfl) rfl rfl rfl (fun r1 σ1 q1 => ?_)
    rcases q1 with ⟨rfl, rfl, rfl⟩ | ⟨hlt, rfl, g1, g2, -⟩
    · refine kX_ret (i := .ireturn) (len := 1) rfl (Or.inr rfl) rfl (⟨⟨_, rfl⟩, cAfter_same h⟩)
    · refine kX_ret (i := .ireturn) (len := 1) rfl (Or.inr rfl) rfl (⟨⟨_, rfl⟩, cGr_hi g2, n + 1, S, C, cJ_gr h g2 (by omega) g1⟩)
  · repeat refine kX_one rfl ?_
    refine kX_ret (i := .ireturn) (len := 1) rfl (Or.inr rfl) rfl (⟨⟨_, rfl⟩, cAfter_same h⟩)
set_option maxRecDepth 100000 in
set_option maxHeartbeats 4000000 in
theorem mk_atom (L : Nat) (xs : Nat → Int32) (d : Nat) (σ : kS) (n R S C : Nat) (x : Int32) (h : cJ σ n R S C) : kXM kT L xs (d + 5) 110 [.ref 0, .int x] σ (fun r σ' => (∃ x, r = some (.int x)) ∧ cAfter σ σ' R) := by
  have hT := h.1
  unfold kXM
  have k13 : ∀ k, k ≤ 2 → x = nI k → kX kT L xs (d + 5) 110 13 (lv_args 0 [.ref 0, .int x]) [] σ (fun r σ' => (∃ x, r = some (.int x)) ∧ cAfter σ σ' R) := by
    intro k hk hx
    subst hx
    iterate 2 (refine kX_one rfl ?_)
    refine kX_cal (mc_isFull L xs (d + 3) σ n hT.1 hT.2.1) rfl (Or.inr rfl) rfl rfl rfl (fun r1 σ1 q1 => ?_)
    obtain ⟨rfl, rfl⟩ := q1
    repeat refine kX_one rfl ?_
    refine kX_if (fun q => ?_) (fun q => ?_)
    · iterate 4 (refine kX_one rfl ?_)
      refine kX_cal (mc_newAtom L xs d σ n k 0 hT hk (Or.inl rfl)) rfl (Or.inr rfl) rfl rfl rfl (fun r1 σ1 q1 => ?_)
      rcases q1 with ⟨rfl, rfl, rfl⟩ | ⟨hlt, rfl, g1, g2, -⟩
      · refine kX_ret (i := .ireturn) (len := 1) rfl (Or.inr rfl) rfl (⟨⟨_, rfl⟩, cAfter_same h⟩)
      · refine kX_ret (i := .ireturn) (len := 1) rfl (Or.inr rfl) rfl (⟨⟨_, rfl⟩, cGr_hi g2, n + 1, S, C, cJ_gr h g2 (by omega) g1⟩)
    · repeat refine kX_one rfl ?_
      refine kX_ret (i := .ireturn) (len := 1) rfl (Or.inr rfl) rfl (⟨⟨_, rfl⟩, cAfter_same h⟩)
  repeat refine kX_one rfl ?_
  refine kX_if (fun q => ?_) (fun q => ?_)
  · exact k13 1 (by decide) (qeq q)
  · repeat refine kX_one rfl ?_
    refine kX_if (fun q => ?_) (fun q => ?_)
    · exact k13 2 (by decide) (qeq q)
    · repeat refine kX_one rfl ?_
      refine kX_ret (i := .ireturn) (len := 1) rfl (Or.inr rfl) rfl (⟨⟨_, rfl⟩, cAfter_same h⟩)
set_option maxRecDepth 100000 in
set_option maxHeartbeats 4000000 in
theorem mk_term (L : Nat) (xs : Nat → Int32) (d : Nat) (σ : kS) (n R S C : Nat) (w x y : Int32) (h : cJ σ n R S C) : kXM kT L xs (d + 6) 111 [.ref 0, .int w, .int x, .int y] σ (fun r σ' => (∃ x, r = some (.int x)) ∧ cAfter σ σ' R) := by
  have hT := h.1
  have hn := hT.1
  unfold kXM
  have k28 : kX kT L xs (d + 6) 111 28 (lv_args 0 [.ref 0, .int w, .int x, .int y]) [] σ (fun r σ' => (∃ x, r = some (.int x)) ∧ cAfter σ σ' R) := by
    repeat refine kX_one rfl ?_
    refine kX_ret (i := .ireturn) (len := 1) rfl (Or.inr rfl) rfl (⟨⟨_, rfl⟩, cAfter_same h⟩)
  have k63 : ∀ k z, 4 ≤ k → k ≤ 9 → w = nI k → (∃ x', x' < n ∧ x = nI x') → ((∃ y', y' < n ∧ z = nI y') ∨ (z = -1 ∧ (k = 7 ∨ k = 9))) → kX kT L xs (d + 6) 111 63 (lv_args 0 [.ref 0, .int w, .int x, .int y]) [.int z, .int x, .int w, .ref 0] σ (fun r σ' => (∃ x, r = some (.int x)) ∧ cAfter σ σ' R) := by
    intro k z k1 k2 hw hx hz
    subst hw
    refine kX_cal (mc_compound L xs d σ n R S C k x z h k1 k2 hx hz) rfl (Or.inr rfl) rfl rfl rfl (fun r1 σ1 q1 => ?_)
    obtain ⟨⟨v, rfl⟩, hA⟩ := q1
    refine kX_ret (i := .ireturn) (len := 1) rfl (Or.inr rfl) rfl (⟨⟨_, rfl⟩, hA⟩)
  have k30 : (∃ x', x' < n ∧ x = nI x') → (w = 9 ∨ ∃ y', y' < n ∧ y = nI y') → kX kT L xs (d + 6) 111 30 (lv_args 0 [.ref 0, .int w, .int x, .int y]) [] σ (fun r σ' => (∃ x, r = some (.int x)) ∧ cAfter σ σ' R) := by
    intro hx hy
    have k49 : ∀ k, (k = 4 ∨ k = 5 ∨ k = 9) → w = nI k → kX kT L xs (d + 6) 111 49 (lv_args 0 [.ref 0, .int w, .int x, .int y]) [] σ (fun r σ' => (∃ x, r = some (.int x)) ∧ cAfter σ σ' R) := by
      intro k hk hw
      iterate 5 (refine kX_one rfl ?_)
      repeat refine kX_one rfl ?_
      refine kX_if (fun q => ?_) (fun q => ?_)
      · have q : w ≠ 9 := qne q
        iterate 1 (refine kX_one rfl ?_)
        exact k63 k y (by omega) (by omega) hw hx (Or.inl (hy.elim (fun z => absurd z q) id))
      · have q : w = 9 := qneF q
        have hk9 : k = 9 := nI_inj (hw.symm.trans q)
        iterate 2 (refine kX_one rfl ?_)
        exact k63 k (-1) (by omega) (by omega) hw hx (Or.inr ⟨rfl, Or.inr hk9⟩)
    repeat refine kX_one rfl ?_
    refine kX_if (fun q => ?_) (fun q => ?_)
    · exact k49 4 (Or.inl rfl) (qeq q)
    · repeat refine kX_one rfl ?_
      refine kX_if (fun q => ?_) (fun q => ?_)
      · exact k49 5 (Or.inr (Or.inl rfl)) (qeq q)
      · repeat refine kX_one rfl ?_
        refine kX_if (fun q => ?_) (fun q => ?_)
        · exact k49 9 (Or.inr (Or.inr rfl)) (qeq q)
        · repeat refine kX_one rfl ?_
          refine kX_ret (i := .ireturn) (len := 1) rfl (Or.inr rfl) rfl (⟨⟨_, rfl⟩, cAfter_same h⟩)
  iterate 3 (refine kX_one rfl ?_)
  refine kX_cal (mc_has L xs (d + 4) σ n x hn hT.2.1) rfl (Or.inr rfl) rfl rfl rfl (fun r1 σ1 q1 => ?_)
  obtain ⟨rfl, rfl⟩ := q1
  repeat refine kX_one rfl ?_
  refine kX_if (fun q => ?_) (fun q => ?_)
  · exact k28
  · have hx := isB_ne.mp (qeqF q)
    repeat refine kX_one rfl ?_
    refine kX_if (fun q => ?_) (fun q => ?_)
    · exact k30 hx (Or.inl (qeq q))
    · iterate 3 (refine kX_one rfl ?_)
      refine kX_cal (mc_has L xs (d + 4) σ n y hn hT.2.1) rfl (Or.inr rfl) rfl rfl rfl (fun r1 σ1 q1 => ?_)
      obtain ⟨rfl, rfl⟩ := q1
      repeat refine kX_one rfl ?_
      refine kX_if (fun q2 => ?_) (fun q2 => ?_)
      · exact k30 hx (Or.inr (isB_ne.mp (qne q2)))
      · exact k28
set_option maxRecDepth 100000 in
set_option maxHeartbeats 4000000 in
theorem mk_of (L : Nat) (xs : Nat → Int32) (d : Nat) (σ : kS) (n R S C : Nat) (w x y : Int32) (h : cJ σ n R S C) : kXM kT L xs (d + 6) 112 [.ref 0, .int w, .int x, .int y] σ (fun r σ' => (∃ x, r = some (.int x)) ∧ cAfter σ σ' R) := by
  have hT := h.1
  have hn := hT.1
  unfold kXM
  have k28 : kX kT L xs (d + 6) 112 28 (lv_args 0 [.ref 0, .int w, .int x, .int y]) [] σ (fun r σ' => (∃ x, r = some (.int x)) ∧ cAfter σ σ' R) := by
    repeat refine kX_one rfl ?_
    refine kX_ret (i := .ireturn) (len := 1) rfl (Or.inr rfl) rfl (⟨⟨_, rfl⟩, cAfter_same h⟩)
  have k59 : kX kT L xs (d + 6) 112 59 (lv_args 0 [.ref 0, .int w, .int x, .int y]) [] σ (fun r σ' => (∃ x, r = some (.int x)) ∧ cAfter σ σ' R) := by
    repeat refine kX_one rfl ?_
    refine kX_ret (i := .ireturn) (len := 1) rfl (Or.inr rfl) rfl (⟨⟨_, rfl⟩, cAfter_same h⟩)
  have k30 : (∃ y', y' < n ∧ y = nI y') → (w = 7 ∨ ∃ x', x' < n ∧ x = nI x') → kX kT L xs (d + 6) 112 30 (lv_args 0 [.ref 0, .int w, .int x, .int y]) [] σ (fun r σ' => (∃ x, r = some (.int x)) ∧ cAfter σ σ' R) := by
    intro hy hx
    have k48 : ∀ k, (k = 6 ∨ k = 7 ∨ k = 8) → w = nI k → kX kT L xs (d + 6) 112 48 (lv_args 0 [.ref 0, .int w, .int x, .int y]) [] σ (fun r σ' => (∃ x, r = some (.int x)) ∧ cAfter σ σ' R) := by
      intro k hk hw
      obtain ⟨y', y1, rfl⟩ := hy
      iterate 3 (refine kX_one rfl ?_)
      refine kX_cal (mc_mayBeAgent L xs (d + 2) σ n y' hn hT.2.1 y1) rfl (Or.inr rfl) rfl rfl rfl (fun r1 σ1 q1 => ?_)
      obtain ⟨rfl, rfl⟩ := q1
      repeat refine kX_one rfl ?_
      refine kX_if (fun q => ?_) (fun q => ?_)
      · iterate 2 (refine kX_one rfl ?_)
        repeat refine kX_one rfl ?_
        refine kX_if (fun q2 => ?_) (fun q2 => ?_)
        · have q2 : w ≠ 7 := qne q2
          subst hw
          iterate 4 (refine kX_one rfl ?_)
          refine kX_cal (mc_compound L xs d σ n R S C k x (nI y') h (by omega) (by omega) (hx.elim (fun z => absurd z q2) id) (Or.inl ⟨y', y1, rfl⟩)) rfl (Or.inr rfl) rfl rfl rfl (fun r1 σ1 q1 => ?_)
          obtain ⟨⟨v, rfl⟩, hA⟩ := q1
          refine kX_ret (i := .ireturn) (len := 1) rfl (Or.inr rfl) rfl (⟨⟨_, rfl⟩, hA⟩)
        · iterate 4 (refine kX_one rfl ?_)
          refine kX_cal (mc_compound L xs d σ n R S C 7 (nI y') (-1) h (by omega) (by omega) ⟨y', y1, rfl⟩ (Or.inr ⟨rfl, Or.inl rfl⟩)) rfl (Or.inr rfl) rfl rfl rfl (fun r1 σ1 q1 => ?_)
          obtain ⟨⟨v, rfl⟩, hA⟩ := q1
          iterate 1 (refine kX_one rfl ?_)
          refine kX_ret (i := .ireturn) (len := 1) rfl (Or.inr rfl) rfl (⟨⟨_, rfl⟩, hA⟩)
      · exact k59
    repeat refine kX_one rfl ?_
    refine kX_if (fun q => ?_) (fun q => ?_)
    · exact k48 6 (Or.inl rfl) (qeq q)
    · repeat refine kX_one rfl ?_
      refine kX_if (fun q => ?_) (fun q => ?_)
      · exact k48 7 (Or.inr (Or.inl rfl)) (qeq q)
      · repeat refine kX_one rfl ?_
        refine kX_if (fun q => ?_) (fun q => ?_)
        · exact k59
        · exact k48 8 (Or.inr (Or.inr rfl)) (qneF q)
  iterate 3 (refine kX_one rfl ?_)
  refine kX_cal (mc_has L xs (d + 4) σ n y hn hT.2.1) rfl (Or.inr rfl) rfl rfl rfl (fun r1 σ1 q1 => ?_)
  obtain ⟨rfl, rfl⟩ := q1
  repeat refine kX_one rfl ?_
  refine kX_if (fun q => ?_) (fun q => ?_)
  · exact k28
  · have hy := isB_ne.mp (qeqF q)
    repeat refine kX_one rfl ?_
    refine kX_if (fun q => ?_) (fun q => ?_)
    · exact k30 hy (Or.inl (qeq q))
    · iterate 3 (refine kX_one rfl ?_)
      refine kX_cal (mc_has L xs (d + 4) σ n x hn hT.2.1) rfl (Or.inr rfl) rfl rfl rfl (fun r1 σ1 q1 => ?_)
      obtain ⟨rfl, rfl⟩ := q1
      repeat refine kX_one rfl ?_
      refine kX_if (fun q2 => ?_) (fun q2 => ?_)
      · exact k30 hy (Or.inr (isB_ne.mp (qne q2)))
      · exact k28
end
section
/-! the class: symbolic cells; ROLES -/
theorem jcall_v {k idx kd y n : Nat} {st rest : List Value} {T : List jC} {a ci : Nat} {ts : List Value} (hm : jm_mth k idx = some (kd, y, n)) (hk : decide ((kd = 0 ∨ kd = 3) ∧ n ≤ st.length) = true) (hd : st.drop n = .ref a :: rest) (ha : T[a]? = some (.inr (ci, ts))) (ho : decide (jm_own y = ci ∧ (rest.map fun v => v.category).sum ≤ 8) = true) {as : List Value} (hs : .ref a :: (st.take n).reverse = as) : jcall k st T (.invokevirtual idx) = some (y, as, rest) := by
  subst hs
  unfold jcall
  dsimp only
  rw [hm]
  dsimp only
  rw [if_pos (of_decide_eq_true hk), hd]
  dsimp only
  rw [ha]
  dsimp only
  rw [if_pos (of_decide_eq_true ho)]
theorem kT_ro {r : Nat} (h : r < 4) : kT[23 + 35 * r]? = some (.inr (5, [.ref (24 + 35 * r), .ref (25 + 35 * r), .ref (26 + 35 * r), .int 0, .ref (27 + 35 * r), .int 0, .int 0])) := by
  obtain rfl | rfl | rfl | rfl : r = 0 ∨ r = 1 ∨ r = 2 ∨ r = 3 := by omega
  all_goals rfl
theorem kT_ra {r : Nat} (h : r < 4) : kT[24 + 35 * r]? = some (.inl (0, 6, .inl (fun _ => 0))) := by
  obtain rfl | rfl | rfl | rfl : r = 0 ∨ r = 1 ∨ r = 2 ∨ r = 3 := by omega
  all_goals rfl
theorem kT_rs {r : Nat} (h : r < 4) : kT[25 + 35 * r]? = some (.inl (0, 6, .inl (fun _ => 0))) := by
  obtain rfl | rfl | rfl | rfl : r = 0 ∨ r = 1 ∨ r = 2 ∨ r = 3 := by omega
  all_goals rfl
theorem kT_rr {r : Nat} (h : r < 4) : kT[26 + 35 * r]? = some (.inl (1, 6, .inl (fun _ => 0))) := by
  obtain rfl | rfl | rfl | rfl : r = 0 ∨ r = 1 ∨ r = 2 ∨ r = 3 := by omega
  all_goals rfl
theorem kT_re {r : Nat} (h : r < 4) : kT[27 + 35 * r]? = some (.inl (4, 6, .inr (.inr (.inr (.inr (fun i => ([28 + 35 * r, 33 + 35 * r, 38 + 35 * r, 43 + 35 * r, 48 + 35 * r, 53 + 35 * r] : List Nat)[i]?)))))) := by
  obtain rfl | rfl | rfl | rfl : r = 0 ∨ r = 1 ∨ r = 2 ∨ r = 3 := by omega
  all_goals rfl
theorem ev_at {r k : Nat} (hk : k < 6) : (fun i => ([28 + 35 * r, 33 + 35 * r, 38 + 35 * r, 43 + 35 * r, 48 + 35 * r, 53 + 35 * r] : List Nat)[i]?) k = some (28 + 35 * r + 5 * k) := by
  obtain rfl | rfl | rfl | rfl | rfl | rfl : k = 0 ∨ k = 1 ∨ k = 2 ∨ k = 3 ∨ k = 4 ∨ k = 5 := by omega
  all_goals (show some _ = some _; congr 1 <;> omega)
theorem kT_ev {r k : Nat} (hr : r < 4) (hk : k < 6) : kT[28 + 35 * r + 5 * k]? = some (.inr (3, [.int 0, .int 0, .ref (28 + 35 * r + 5 * k + 1), .ref (28 + 35 * r + 5 * k + 2), .int 0, .ref (28 + 35 * r + 5 * k + 3), .ref (28 + 35 * r + 5 * k + 4), .int 0])) := by
  obtain rfl | rfl | rfl | rfl : r = 0 ∨ r = 1 ∨ r = 2 ∨ r = 3 := by omega
  all_goals
    obtain rfl | rfl | rfl | rfl | rfl | rfl : k = 0 ∨ k = 1 ∨ k = 2 ∨ k = 3 ∨ k = 4 ∨ k = 5 := by omega
    all_goals rfl
theorem kT_e1 {r k i : Nat} (hr : r < 4) (hk : k < 6) (hi : i = 1 ∨ i = 2) : kT[28 + 35 * r + 5 * k + i]? = some (.inl (0, 6, .inl (fun _ => 0))) := by
  obtain rfl | rfl | rfl | rfl : r = 0 ∨ r = 1 ∨ r = 2 ∨ r = 3 := by omega
  all_goals
    obtain rfl | rfl | rfl | rfl | rfl | rfl : k = 0 ∨ k = 1 ∨ k = 2 ∨ k = 3 ∨ k = 4 ∨ k = 5 := by omega
    all_goals
      rcases hi with rfl | rfl
      all_goals rfl
theorem kT_e3 {r k : Nat} (hr : r < 4) (hk : k < 6) : kT[28 + 35 * r + 5 * k + 3]? = some (.inl (0, 24, .inl (fun _ => 0))) ∧ kT[28 + 35 * r + 5 * k + 4]? = some (.inl (0, 7, .inl (fun _ => 0))) := by
  obtain rfl | rfl | rfl | rfl : r = 0 ∨ r = 1 ∨ r = 2 ∨ r = 3 := by omega
  all_goals
    obtain rfl | rfl | rfl | rfl | rfl | rfl : k = 0 ∨ k = 1 ∨ k = 2 ∨ k = 3 ∨ k = 4 ∨ k = 5 := by omega
    all_goals exact ⟨rfl, rfl⟩
theorem ro_at {r : Nat} (h : r < 4) : (fun i => ([23, 58, 93, 128] : List Nat)[i]?) r = some (23 + 35 * r) := by
  obtain rfl | rfl | rfl | rfl : r = 0 ∨ r = 1 ∨ r = 2 ∨ r = 3 := by omega
  all_goals rfl
theorem cl_at {c : Nat} (h : c < 6) : (fun i => ([163, 166, 169, 172, 175, 178] : List Nat)[i]?) c = some (163 + 3 * c) := by
  obtain rfl | rfl | rfl | rfl | rfl | rfl : c = 0 ∨ c = 1 ∨ c = 2 ∨ c = 3 ∨ c = 4 ∨ c = 5 := by omega
  all_goals rfl
theorem kT_cl {c : Nat} (h : c < 6) : kT[163 + 3 * c]? = some (.inr (2, [.int 0, .int 0, .int 0, .int 0, .ref (164 + 3 * c), .ref (165 + 3 * c), .int 0])) := by
  obtain rfl | rfl | rfl | rfl | rfl | rfl : c = 0 ∨ c = 1 ∨ c = 2 ∨ c = 3 ∨ c = 4 ∨ c = 5 := by omega
  all_goals rfl
theorem kT_c1 {c : Nat} (h : c < 6) : kT[164 + 3 * c]? = some (.inl (0, 4, .inl (fun _ => 0))) ∧ kT[165 + 3 * c]? = some (.inl (0, 4, .inl (fun _ => 0))) := by
  obtain rfl | rfl | rfl | rfl | rfl | rfl : c = 0 ∨ c = 1 ∨ c = 2 ∨ c = 3 ∨ c = 4 ∨ c = 5 := by omega
  all_goals exact ⟨rfl, rfl⟩
set_option maxRecDepth 100000 in
set_option maxHeartbeats 4000000 in
theorem mc_hasRole (L : Nat) (xs : Nat → Int32) (d : Nat) (σ : kS) (n : Nat) (x : Int32) (hn : n ≤ 4) (h : σ 13 2 = nI n) : kXM kT L xs (d + 1) 3 [.ref 13, .int x] σ (fun r σ' => r = some (.int (isB (isN x n))) ∧ σ = σ') := by
  unfold kXM
  repeat refine kX_one rfl ?_
  refine kX_if (fun q => ?_) (fun q => ?_)
  · have q : x < 0 := of_decide_eq_true q
    repeat refine kX_one rfl ?_
    refine kX_ret (i := .ireturn) (len := 1) rfl (Or.inr rfl) rfl ⟨rF (fun z => ?_), rfl⟩
    obtain ⟨j, j1, rfl⟩ := z
    exact nI_pos (by omega) q
  · have q : ¬ x < 0 := of_decide_eq_false q
    obtain ⟨j, hj, rfl⟩ := nI_of q
    iterate 3 (refine kX_one rfl ?_)
    refine kX_top (h) ?_
    repeat refine kX_one rfl ?_
    refine kX_if (fun q2 => ?_) (fun q2 => ?_)
    · have q2 := qge q2 j n
      repeat refine kX_one rfl ?_
      refine kX_ret (i := .ireturn) (len := 1) rfl (Or.inr rfl) rfl ⟨rF (fun z => ?_), rfl⟩
      obtain ⟨j', j1, e⟩ := z
      have := nI_inj e
      omega
    · have q2 := qgeF q2 j n
      repeat refine kX_one rfl ?_
      refine kX_ret (i := .ireturn) (len := 1) rfl (Or.inr rfl) rfl (⟨rT (⟨j, q2, rfl⟩), rfl⟩)
set_option maxRecDepth 100000 in
set_option maxHeartbeats 4000000 in
theorem mc_hasSession (L : Nat) (xs : Nat → Int32) (d : Nat) (σ : kS) (n : Nat) (x : Int32) (hn : n ≤ 4) (h : σ 13 6 = nI n) : kXM kT L xs (d + 1) 4 [.ref 13, .int x] σ (fun r σ' => r = some (.int (isB (isN x n))) ∧ σ = σ') := by
  unfold kXM
  repeat refine kX_one rfl ?_
  refine kX_if (fun q => ?_) (fun q => ?_)
  · have q : x < 0 := of_decide_eq_true q
    repeat refine kX_one rfl ?_
    refine kX_ret (i := .ireturn) (len := 1) rfl (Or.inr rfl) rfl ⟨rF (fun z => ?_), rfl⟩
    obtain ⟨j, j1, rfl⟩ := z
    exact nI_pos (by omega) q
  · have q : ¬ x < 0 := of_decide_eq_false q
    obtain ⟨j, hj, rfl⟩ := nI_of q
    iterate 3 (refine kX_one rfl ?_)
    refine kX_top (h) ?_
    repeat refine kX_one rfl ?_
    refine kX_if (fun q2 => ?_) (fun q2 => ?_)
    · have q2 := qge q2 j n
      repeat refine kX_one rfl ?_
      refine kX_ret (i := .ireturn) (len := 1) rfl (Or.inr rfl) rfl ⟨rF (fun z => ?_), rfl⟩
      obtain ⟨j', j1, e⟩ := z
      have := nI_inj e
      omega
    · have q2 := qgeF q2 j n
      repeat refine kX_one rfl ?_
      refine kX_ret (i := .ireturn) (len := 1) rfl (Or.inr rfl) rfl (⟨rT (⟨j, q2, rfl⟩), rfl⟩)
set_option maxRecDepth 100000 in
set_option maxHeartbeats 4000000 in
theorem mc_hasClaim (L : Nat) (xs : Nat → Int32) (d : Nat) (σ : kS) (n : Nat) (x : Int32) (hn : n ≤ 6) (h : σ 13 8 = nI n) : kXM kT L xs (d + 1) 5 [.ref 13, .int x] σ (fun r σ' => r = some (.int (isB (isN x n))) ∧ σ = σ') := by
  unfold kXM
  repeat refine kX_one rfl ?_
  refine kX_if (fun q => ?_) (fun q => ?_)
  · have q : x < 0 := of_decide_eq_true q
    repeat refine kX_one rfl ?_
    refine kX_ret (i := .ireturn) (len := 1) rfl (Or.inr rfl) rfl ⟨rF (fun z => ?_), rfl⟩
    obtain ⟨j, j1, rfl⟩ := z
    exact nI_pos (by omega) q
  · have q : ¬ x < 0 := of_decide_eq_false q
    obtain ⟨j, hj, rfl⟩ := nI_of q
    iterate 3 (refine kX_one rfl ?_)
    refine kX_top (h) ?_
    repeat refine kX_one rfl ?_
    refine kX_if (fun q2 => ?_) (fun q2 => ?_)
    · have q2 := qge q2 j n
      repeat refine kX_one rfl ?_
      refine kX_ret (i := .ireturn) (len := 1) rfl (Or.inr rfl) rfl ⟨rF (fun z => ?_), rfl⟩
      obtain ⟨j', j1, e⟩ := z
      have := nI_inj e
      omega
    · have q2 := qgeF q2 j n
      repeat refine kX_one rfl ?_
      refine kX_ret (i := .ireturn) (len := 1) rfl (Or.inr rfl) rfl (⟨rT (⟨j, q2, rfl⟩), rfl⟩)
set_option maxRecDepth 100000 in
set_option maxHeartbeats 4000000 in
theorem mc_roHas (L : Nat) (xs : Nat → Int32) (d : Nat) (σ : kS) (ro n : Nat) (x : Int32) (hr : ro < 4) (hn : n ≤ 6) (h : σ (23 + 35 * ro) 3 = nI n) : kXM kT L xs (d + 1) 62 [.ref (23 + 35 * ro), .int x] σ (fun r σ' => r = some (.int (isB (isN x n))) ∧ σ = σ') := by
  unfold kXM
  repeat refine kX_one rfl ?_
  refine kX_if (fun q => ?_) (fun q => ?_)
  · have q : x < 0 := of_decide_eq_true q
    repeat refine kX_one rfl ?_
    refine kX_ret (i := .ireturn) (len := 1) rfl (Or.inr rfl) rfl ⟨rF (fun z => ?_), rfl⟩
    obtain ⟨j, j1, rfl⟩ := z
    exact nI_pos (by omega) q
  · have q : ¬ x < 0 := of_decide_eq_false q
    obtain ⟨j, hj, rfl⟩ := nI_of q
    iterate 2 (refine kX_one rfl ?_)
    refine kX_getN rfl rfl (kT_ro hr) rfl ?_
    refine kX_top (h) ?_
    repeat refine kX_one rfl ?_
    refine kX_if (fun q2 => ?_) (fun q2 => ?_)
    · have q2 := qge q2 j n
      repeat refine kX_one rfl ?_
      refine kX_ret (i := .ireturn) (len := 1) rfl (Or.inr rfl) rfl ⟨rF (fun z => ?_), rfl⟩
      obtain ⟨j', j1, e⟩ := z
      have := nI_inj e
      omega
    · have q2 := qgeF q2 j n
      repeat refine kX_one rfl ?_
      refine kX_ret (i := .ireturn) (len := 1) rfl (Or.inr rfl) rfl (⟨rT (⟨j, q2, rfl⟩), rfl⟩)
set_option maxRecDepth 100000 in
set_option maxHeartbeats 4000000 in
theorem mc_hasVariable (L : Nat) (xs : Nat → Int32) (d : Nat) (σ : kS) (n R : Nat) (x y : Int32) (h : cRo σ n R) : kXM kT L xs (d + 2) 6 [.ref 13, .int x, .int y] σ (fun r σ' => r = some (.int (isB (∃ ro v, ro < R ∧ x = nI ro ∧ v < 6 ∧ y = nI v ∧ v < fN (σ (23 + 35 * ro) 3)))) ∧ σ = σ') := by
  have hR := h.1
  unfold kXM
  iterate 2 (refine kX_one rfl ?_)
  refine kX_cal (mc_hasRole L xs d σ R x hR h.2.1) rfl (Or.inr rfl) rfl rfl rfl (fun r1 σ1 q1 => ?_)
  obtain ⟨rfl, rfl⟩ := q1
  repeat refine kX_one rfl ?_
  refine kX_if (fun q => ?_) (fun q => ?_)
  · have q : ¬ isN x R := fun z => isB_ne.mpr z (qeq q)
    repeat refine kX_one rfl ?_
    refine kX_ret (i := .ireturn) (len := 1) rfl (Or.inr rfl) rfl (⟨rF (fun z => q (by obtain ⟨ro, v, r1, r2, -⟩ := z; exact ⟨ro, r1, r2⟩)), rfl⟩)
  · obtain ⟨ro, r1, rfl⟩ := isB_ne.mp (qeqF q)
    obtain ⟨v, e, v1, e1, v2, e2, -⟩ := h.2.2 ro r1
    iterate 3 (refine kX_one rfl ?_)
    refine kX_aaldN rfl (rfl) (by decide) (by decide) (by decide) (ro) (by first | rfl | decide) (by omega) (ro_at (by omega)) ?_
    iterate 1 (refine kX_one rfl ?_)
    refine kX_cal (mc_roHas L xs d σ ro v y (by omega) v1 v2) rfl (Or.inr rfl) rfl (jcall_v rfl rfl rfl (kT_ro (r := ro) (by omega)) rfl rfl) rfl (fun r1 σ1 q1 => ?_)
    obtain ⟨rfl, rfl⟩ := q1
    repeat refine kX_one rfl ?_
    refine kX_if (fun q => ?_) (fun q => ?_)
    · have q : ¬ isN y v := fun z => isB_ne.mpr z (qeq q)
      repeat refine kX_one rfl ?_
      refine kX_ret (i := .ireturn) (len := 1) rfl (Or.inr rfl) rfl ⟨rF (fun z => q ?_), rfl⟩
      obtain ⟨ro', v', a1, a2, a3, a4, a5⟩ := z
      obtain rfl : ro = ro' := nI_inj a2
      rw [v2, fN_nI (by omega)] at a5
      exact ⟨v', a5, a4⟩
    · obtain ⟨v', a1, rfl⟩ := isB_ne.mp (qeqF q)
      repeat refine kX_one rfl ?_
      refine kX_ret (i := .ireturn) (len := 1) rfl (Or.inr rfl) rfl (⟨rT ⟨ro, v', r1, rfl, by omega, rfl, by rw [v2, fN_nI (by omega)]; exact a1⟩, rfl⟩)
/-- a ROLE has changed -/
theorem cR1_eq {σ τ : kS} {n r : Nat} (e : ∀ c, 23 + 35 * r ≤ c → c < 58 + 35 * r → τ c = σ c) (h : cR1 σ n r) : cR1 τ n r := by
  obtain ⟨v, ev, a1, a2, a3, a4, a5, a6⟩ := h
  refine ⟨v, ev, a1, a2, by rw [e _ (by omega) (by omega)]; exact a3, by rw [e _ (by omega) (by omega)]; exact a4, by rw [e (25 + 35 * r) (by omega) (by omega), e (24 + 35 * r) (by omega) (by omega)]; exact a5, fun k hk => cE_up (Nat.le_refl _) (fun i hi => e _ (by omega) (by omega)) (a6 k hk)⟩
theorem cJ_lo {σ τ : kS} {n R R' S C : Nat} (h : cJ σ n R S C) (e : ∀ c, c < 13 ∨ 163 ≤ c ∨ (c = 15 ∨ c = 17) → τ c = σ c) (e13 : ∀ j, j ≠ 2 → τ 13 j = σ 13 j) (hR : cRo τ n R') (hRR : R ≤ R') : cJ τ n R' S C := by
  obtain ⟨h1, h2, h3, h4, h5, h6, h7, h8, h9, h10, h11⟩ := h
  have et : ∀ c, c < 13 → τ c = σ c := fun c hc => e c (Or.inl hc)
  have eh : ∀ c, 163 ≤ c → τ c = σ c := fun c hc => e c (Or.inr (Or.inl hc))
  have hgr : τ 8 = σ 8 := et _ (by decide)
  have hcv : ∀ A base, cV σ n S A base → cV τ n S A base := fun A base q => by
    unfold cV
    rw [hgr]
    exact q
  have hgt : ∀ g, 200 ≤ g → τ 2 g = σ 2 g ∧ τ 3 g = σ 3 g ∧ τ 4 g = σ 4 g ∧ τ 6 g = σ 6 g := fun g _ => by
    rw [et 2 (by decide), et 3 (by decide), et 4 (by decide), et 6 (by decide)]
    exact ⟨rfl, rfl, rfl, rfl⟩
  refine ⟨?_, hR, ?_, ?_, ?_, cKw_eq (by decide) (eh _ (by decide)) (eh _ (by decide)) (eh _ (by decide)) hgt h6, cKw_eq (by decide) (eh _ (by decide)) (eh _ (by decide)) (eh _ (by decide)) hgt h7, cKw_eq (by decide) (eh _ (by decide)) (eh _ (by decide)) (eh _ (by decide)) hgt h8, ?_, ?_, ?_⟩
  · obtain ⟨a1, a2, a3, a4⟩ := h1
    refine ⟨a1, by rw [et 1 (by decide)]; exact a2, ?_, fun t ht => cTt_eq (fun u hu => ?_) (a4 t ht)⟩
    · rw [et 7 (by decide), et 2 (by decide)]
      exact a3
    · rw [et 2 (by decide), et 3 (by decide), et 4 (by decide), et 8 (by decide), et 12 (by decide), et 6 (by decide)]
      exact ⟨rfl, rfl, rfl, rfl, rfl, rfl⟩
  · obtain ⟨a1, a2, a3, a4⟩ := h3
    refine ⟨a1, by rw [e13 _ (by decide)]; exact a2, ?_, ?_⟩
    · rw [e 15 (Or.inr (Or.inr (by decide)))]
      intro s hs
      obtain ⟨r, r1, r2⟩ := a3 s hs
      exact ⟨r, by omega, r2⟩
    · rw [e 17 (Or.inr (Or.inr (by decide)))]
      exact hcv _ _ a4
  · obtain ⟨a1, a2, a3⟩ := h4
    refine ⟨a1, by rw [e13 _ (by decide)]; exact a2, fun c hc => ?_⟩
    rw [eh (163 + 3 * c) (by omega), eh (164 + 3 * c) (by omega), eh (165 + 3 * c) (by omega)]
    exact a3 c hc
  · unfold cKn
    rw [e13 _ (by decide)]
    exact h5
  · unfold cRu
    rw [eh 181 (by decide), eh 183 (by decide), eh 182 (by decide), eh 186 (by decide)]
    rcases h9 with q | ⟨q1, q2, q3, q4⟩
    · exact Or.inl q
    · refine Or.inr ⟨q1, q2, hcv _ _ q3, ?_⟩
      rcases q4 with q4 | ⟨g, g1, g2, g3⟩
      · exact Or.inl q4
      · refine Or.inr ⟨g, g1, g2, fun hg => ?_⟩
        obtain ⟨u, u1, u2, u3⟩ := g3 hg
        refine ⟨u, u1, u2, ?_⟩
        unfold cKg cKc
        rw [hgr, et 3 (by decide), et 4 (by decide)]
        exact u3
  · obtain ⟨N, a1, a2, a3, a4, a5⟩ := h10
    refine ⟨N, a1, by rw [eh 196 (by decide)]; exact a2, fun i hi => ?_, ?_, ?_⟩
    · rw [eh 197 (by decide)]
      exact hcv _ _ (a3 i hi)
    · rw [eh 198 (by decide), eh 199 (by decide)]
      exact a4
    · rw [eh 195 (by decide), eh 203 (by decide)]
      exact a5
  · unfold cQ
    rw [eh 231 (by decide), eh 222 (by decide)]
    exact h11
theorem cJ_ro {σ τ : kS} {n R S C r : Nat} (h : cJ σ n R S C) (hr : r < R) (e : ∀ c, c < 23 + 35 * r ∨ 58 + 35 * r ≤ c → τ c = σ c) (h1 : cR1 τ n r) : cJ τ n R S C := by
  have hR4 := h.2.1.1
  refine cJ_lo h (fun c hc => e c (by omega)) (fun j _ => by rw [e 13 (by omega)]) ⟨hR4, by rw [e 13 (by omega)]; exact h.2.1.2.1, fun r' hr' => ?_⟩ (Nat.le_refl _)
  by_cases q : r' = r
  · subst q
    exact h1
  · exact cR1_eq (fun c c1 c2 => e c (by omega)) (h.2.1.2.2 r' hr')
set_option maxRecDepth 100000 in
set_option maxHeartbeats 4000000 in
theorem mk_role (L : Nat) (xs : Nat → Int32) (d : Nat) (σ : kS) (n R S C : Nat) (h : cJ σ n R S C) : kXM kT L xs (d + 3) 114 [.ref 0] σ (fun r σ' => (R = 4 ∧ r = some (.int (-4)) ∧ σ = σ') ∨ (R < 4 ∧ r = some (.int (nI R)) ∧ cAfter σ σ' (R + 1))) := by
  have hR := h.2.1
  have hR4 := hR.1
  unfold kXM
  iterate 3 (refine kX_one rfl ?_)
  refine kX_top (hR.2.1) ?_
  iterate 1 (refine kX_one rfl ?_)
  repeat refine kX_one rfl ?_
  refine kX_if (fun q => ?_) (fun q => ?_)
  · have q := qlt q R 4
    have hnew : kXM kT L xs (d + 2) 7 [.ref 13] σ (fun r σ' => r = some (.int (nI R)) ∧ cAfter σ σ' (R + 1)) := by
      unfold kXM
      iterate 2 (refine kX_one rfl ?_)
      refine kX_top (hR.2.1) ?_
      iterate 1 (refine kX_one rfl ?_)
      repeat refine kX_one rfl ?_
      refine kX_if (fun q2 => ?_) (fun q2 => ?_)
      · iterate 4 (refine kX_one rfl ?_)
        refine kX_top (hR.2.1) ?_
        refine kX_aaldN rfl (rfl) (by decide) (by decide) (by decide) (R) (by first | rfl | decide) (by omega) (ro_at q) ?_
        have hem : kXM kT L xs (d + 1) 60 [.ref (23 + 35 * R)] σ (fun r σ' => r = none ∧ σ' = va_up σ (23 + 35 * R) (upd (upd (upd (σ (23 + 35 * R)) 3 0) 5 0) 6 0)) := by
          unfold kXM
          iterate 2 (refine kX_one rfl ?_)
          refine kX_putN rfl rfl (kT_ro q) rfl (rfl) rfl ?_
          iterate 2 (refine kX_one rfl ?_)
          refine kX_putN rfl rfl (kT_ro q) rfl (rfl) rfl ?_
          iterate 2 (refine kX_one rfl ?_)
          refine kX_putN rfl rfl (kT_ro q) rfl (rfl) rfl ?_
          refine kX_ret (i := .return_) (len := 1) rfl (Or.inr rfl) rfl ⟨rfl, ?_⟩
          rw [kup_up, kup_up]
          simp only [va_up, if_true]
          rfl
        refine kX_cal (hem) rfl (Or.inr rfl) rfl (jcall_v rfl rfl rfl (kT_ro q) rfl rfl) rfl (fun r1 σ1 q1 => ?_)
        obtain ⟨rfl, rfl⟩ := q1
        have e13 : va_up σ (23 + 35 * R) (upd (upd (upd (σ (23 + 35 * R)) 3 0) 5 0) 6 0) 13 = σ 13 := by
          unfold va_up
          rw [if_neg (by omega)]
        have hrc : va_up σ (23 + 35 * R) (upd (upd (upd (σ (23 + 35 * R)) 3 0) 5 0) 6 0) 13 2 = nI R := by
          rw [e13]
          exact hR.2.1
        have hown : va_up σ (23 + 35 * R) (upd (upd (upd (σ (23 + 35 * R)) 3 0) 5 0) 6 0) (23 + 35 * R) = upd (upd (upd (σ (23 + 35 * R)) 3 0) 5 0) 6 0 := by
          unfold va_up
          rw [if_pos rfl]
        have hoth : ∀ c, c ≠ 23 + 35 * R → va_up σ (23 + 35 * R) (upd (upd (upd (σ (23 + 35 * R)) 3 0) 5 0) 6 0) c = σ c := fun c hc => by
          unfold va_up
          rw [if_neg hc]
        generalize va_up σ (23 + 35 * R) (upd (upd (upd (σ (23 + 35 * R)) 3 0) 5 0) 6 0) = ρ at *
        iterate 3 (refine kX_one rfl ?_)
        refine kX_top (hrc) ?_
        iterate 3 (refine kX_one rfl ?_)
        refine kX_st (va_up ρ 13 (upd (ρ 13) 2 (nI (R + 1)))) (by rw [← nI_1]; rfl) ?_
        iterate 2 (refine kX_one rfl ?_)
        have htop : va_up ρ 13 (upd (ρ 13) 2 (nI (R + 1))) 13 2 = nI (R + 1) := rfl
        refine kX_top (htop) ?_
        iterate 2 (refine kX_one rfl ?_)
        have hoth2 : ∀ c, c ≠ 13 → va_up ρ 13 (upd (ρ 13) 2 (nI (R + 1))) c = ρ c := fun c hc => by
          unfold va_up
          rw [if_neg hc]
        refine kX_ret (i := .ireturn) (len := 1) rfl (Or.inr rfl) rfl ⟨congrArg (fun z => some (Value.int z)) (nI_pred R), fun c hc => ?_, n, S, C, cJ_lo h (fun c hc => ?_) (fun j hj => ?_) ⟨by omega, rfl, fun r hr => ?_⟩ (by omega)⟩
        · rw [hoth2 c (by omega), hoth c (by omega)]
        · rw [hoth2 c (by omega), hoth c (by omega)]
        · show upd (ρ 13) 2 (nI (R + 1)) j = σ 13 j
          rw [pk_un hj, e13]
        · by_cases e : r = R
          · subst e
            refine ⟨0, 0, by omega, by omega, ?_, ?_, fun k hk => absurd hk (Nat.not_lt_zero k), fun k hk => absurd hk (Nat.not_lt_zero k)⟩
            · rw [hoth2 _ (by omega), hown]
              rfl
            · rw [hoth2 _ (by omega), hown]
              rfl
          · exact cR1_eq (fun c c1 c2 => by rw [hoth2 c (by omega), hoth c (by omega)]) (hR.2.2 r (by omega))
      · have q2 := qltF q2 R 4
        omega
    iterate 2 (refine kX_one rfl ?_)
    refine kX_cal hnew rfl (Or.inr rfl) rfl rfl rfl (fun r1 σ1 q1 => ?_)
    obtain ⟨rfl, hA⟩ := q1
    refine kX_ret (i := .ireturn) (len := 1) rfl (Or.inr rfl) rfl (Or.inr ⟨q, rfl, hA⟩)
  · have q := qltF q R 4
    repeat refine kX_one rfl ?_
    refine kX_ret (i := .ireturn) (len := 1) rfl (Or.inr rfl) rfl (Or.inl ⟨by omega, rfl, rfl⟩)
end
