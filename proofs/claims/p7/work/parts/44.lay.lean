/-! the reference's table: sizeOf, lay, release, last, made -/
def mv (n b t : Nat) : Prop := t < n ∨ (200 ≤ t ∧ t < b)
def mAG (σ : kS) (n y : Nat) : Prop := y < n ∧ (σ 233 y = nI 0 ∨ (σ 233 y = nI 3 ∧ σ 240 y = nI 0))
def mTb (σ : kS) (n b : Nat) : Prop := n ≤ 200 ∧ 200 ≤ b ∧ b ≤ 1000 ∧ σ 232 9 = nI n ∧ σ 232 10 = nI b ∧ tbW (mv n b) (mAG σ n) (σ 233) (σ 234) (σ 235) (σ 236) ∧ (∀ t, mv n b t → σ 237 t = bI (tgd (σ 233) (σ 234) (σ 235) t)) ∧
  hcP 1024 1000 (fun t => mv n b t ∧ 3 < fN (σ 233 t)) (mpt σ) (σ 242) (σ 243) ∧ (∀ t, 200 ≤ t → t < b → 3 < fN (σ 233 t)) ∧ ∀ t, t < n → tsz (σ 233) (σ 234) (σ 235) t ≤ 24
def msz (Z : Nat → Int32) (k x y : Nat) : Int32 := if k ≤ 3 then nI 1 else if k = 7 then nI 2 else if k = 4 ∨ k = 5 then nI 1 + Z x + Z y else if k = 9 then nI 1 + Z x + 0 else nI 1 + Z x + nI 1
set_option maxRecDepth 100000 in
set_option maxHeartbeats 4000000 in
theorem mr_size (L : Nat) (xs : Nat → Int32) (d : Nat) (σ : kS) (k : Nat) (a c : Int32) (x y : Nat) (h : tNw k a c x y 1000) : kXM kT L xs (d + 1) 150 [.ref 232, .int (nI k), .int a, .int c] σ (fun r σ' => r = some (.int (msz (σ 236) k x y)) ∧ σ = σ') := by
  have hk9 : k ≤ 9 := by rcases h with h | h | h <;> omega
  unfold kXM
  repeat refine kX_one rfl ?_
  repeat refine kX_one rfl ?_
  refine kX_if (fun q => ?_) (fun q => ?_)
  · have q := qgt q k 3
    have ha := tNw_x h q
    repeat refine kX_one rfl ?_
    repeat refine kX_one rfl ?_
    refine kX_if (fun q2 => ?_) (fun q2 => ?_)
    · have q2 : k ≠ 7 := fun e => qne q2 (by rw [e]; decide)
      repeat refine kX_one rfl ?_
      refine kX_ialdN rfl rfl (by decide) x ha.1 ha.2 ?_
      repeat refine kX_one rfl ?_
      have tail : ∀ v : Int32, (v = if k = 4 ∨ k = 5 then σ 236 y else if k = 9 then 0 else nI 1) → kX kT L xs (d + 1) 150 53 [(0, .ref 232), (1, .int (nI k)), (2, .int a), (3, .int c)] [.int v, .int (nI 1 + σ 236 x)] σ (fun r σ' => r = some (.int (msz (σ 236) k x y)) ∧ σ = σ') := by
        intro v hv
        subst hv
        repeat refine kX_one rfl ?_
        refine kX_ret (i := .ireturn) (len := 1) rfl (Or.inr rfl) rfl ⟨?_, rfl⟩
        unfold msz
        repeat' split
        all_goals first | rfl | omega
      have t45 : k = 4 ∨ k = 5 → kX kT L xs (d + 1) 150 33 [(0, .ref 232), (1, .int (nI k)), (2, .int a), (3, .int c)] [.int (nI 1 + σ 236 x)] σ (fun r σ' => r = some (.int (msz (σ 236) k x y)) ∧ σ = σ') := by
        intro h45
        have hc := tNw_y h (by omega)
        repeat refine kX_one rfl ?_
        refine kX_ialdN rfl rfl (by decide) y hc.1 hc.2 ?_
        iterate 1 (refine kX_one rfl ?_)
        exact tail _ (by split <;> first | rfl | omega)
      repeat refine kX_one rfl ?_
      refine kX_if (fun q3 => ?_) (fun q3 => ?_)
      · exact t45 (Or.inl (nI_inj (qeq q3)))
      · have q3 : k ≠ 4 := fun e => qeqF q3 (by rw [e]; decide)
        repeat refine kX_one rfl ?_
        repeat refine kX_one rfl ?_
        refine kX_if (fun q4 => ?_) (fun q4 => ?_)
        · have q4 : k ≠ 5 := fun e => qne q4 (by rw [e]; decide)
          repeat refine kX_one rfl ?_
          repeat refine kX_one rfl ?_
          refine kX_if (fun q5 => ?_) (fun q5 => ?_)
          · have q5 : k ≠ 9 := fun e => qne q5 (by rw [e]; decide)
            iterate 1 (refine kX_one rfl ?_)
            exact tail _ (by (repeat' split) <;> first | rfl | omega)
          · have q5 : k = 9 := nI_inj (qneF q5)
            iterate 2 (refine kX_one rfl ?_)
            exact tail _ (by (repeat' split) <;> first | rfl | omega)
        · exact t45 (Or.inr (nI_inj (qneF q4)))
    · have q2 : k = 7 := nI_inj (qneF q2)
      repeat refine kX_one rfl ?_
      refine kX_ret (i := .ireturn) (len := 1) rfl (Or.inr rfl) rfl ⟨?_, rfl⟩
      unfold msz
      repeat' split
      all_goals first | rfl | omega
  · have q := qgtF q k 3
    repeat refine kX_one rfl ?_
    refine kX_ret (i := .ireturn) (len := 1) rfl (Or.inr rfl) rfl ⟨?_, rfl⟩
    unfold msz
    repeat' split
    all_goals first | rfl | omega
def mgv (G : Nat → Int32) (k x y : Nat) : Int32 := if k = 3 then 0 else if k < 3 then 1 else if G x = 0 then 0 else if k = 7 ∨ k = 9 then 1 else if G y = 0 then 0 else 1
def mLy (σ : kS) (t : Nat) (w a c z g : Int32) : kS := va_up (va_up (va_up (va_up (va_up σ 233 (upd (σ 233) t w)) 234 (upd (σ 234) t a)) 235 (upd (σ 235) t c)) 236 (upd (σ 236) t z)) 237 (upd (σ 237) t g)
def mLay (σ : kS) (t k : Nat) (a c : Int32) (x y : Nat) : kS := if k ≤ 3 then mLy σ t (nI k) a c (msz (σ 236) k x y) (mgv (σ 237) k x y) else
  va_up (va_up (mLy σ t (nI k) a c (msz (σ 236) k x y) (mgv (σ 237) k x y)) 243 (upd (σ 243) t (σ 242 (mpl (nI k) a c)))) 242 (upd (σ 242) (mpl (nI k) a c) (nI t))
set_option maxRecDepth 100000 in
set_option maxHeartbeats 4000000 in
theorem mr_lay (L : Nat) (xs : Nat → Int32) (d : Nat) (σ : kS) (t k : Nat) (a c : Int32) (x y : Nat) (h : tNw k a c x y t) (ht : t < 1000) : kXM kT L xs (d + 2) 149 [.ref 232, .int (nI t), .int (nI k), .int a, .int c] σ (fun r σ' => r = none ∧ σ' = mLay σ t k a c x y) := by
  have hk9 : k ≤ 9 := by rcases h with h | h | h <;> omega
  have h' := tNw_mono h (Nat.le_of_lt ht)
  unfold kXM
  repeat refine kX_one rfl ?_
  refine kX_iastN rfl rfl (by decide) (t) (by first | rfl | decide) (ht) ?_
  repeat refine kX_one rfl ?_
  refine kX_iastN rfl rfl (by decide) (t) (by first | rfl | decide) (ht) ?_
  repeat refine kX_one rfl ?_
  refine kX_iastN rfl rfl (by decide) (t) (by first | rfl | decide) (ht) ?_
  repeat refine kX_one rfl ?_
  refine kX_cal (mr_size L xs d _ k a c x y h') rfl (Or.inr rfl) rfl rfl rfl (fun r1 σ1 q1 => ?_)
  obtain ⟨rfl, rfl⟩ := q1
  refine kX_iastN rfl rfl (by decide) (t) (by first | rfl | decide) (ht) ?_
  repeat refine kX_one rfl ?_
  have tail : ∀ g : Int32, g = mgv (σ 237) k x y → kX kT L xs (d + 2) 149 79 [(0, .ref 232), (1, .int (nI t)), (2, .int (nI k)), (3, .int a), (4, .int c)] [.int g, .int (nI t), .ref 237] (va_up (va_up (va_up (va_up σ 233 (upd (σ 233) t (nI k))) 234 (upd (σ 234) t a)) 235 (upd (σ 235) t c)) 236 (upd (σ 236) t (msz (σ 236) k x y))) (fun r σ' => r = none ∧ σ' = mLay σ t k a c x y) := by
    intro g hg
    have hg01 : g = 0 ∨ g = 1 := by
      subst hg
      unfold mgv
      repeat' split
      all_goals first | exact Or.inl rfl | exact Or.inr rfl
    refine kX_bastN rfl rfl (by decide) (t) (by first | rfl | decide) (ht) (hg01) ?_
    iterate 2 (refine kX_one rfl ?_)
    repeat refine kX_one rfl ?_
    refine kX_if (fun q => ?_) (fun q => ?_)
    · have q := qle q k 3
      refine kX_ret (i := .return_) (len := 1) rfl (Or.inr rfl) rfl ⟨rfl, ?_⟩
      unfold mLay
      rw [if_pos q, ← hg]
      rfl
    · have q := qleF q k 3
      repeat refine kX_one rfl ?_
      refine kX_cal (mr_place L xs (d + 1) _ _ _ _) rfl (Or.inr rfl) rfl rfl rfl (fun r1 σ1 q1 => ?_)
      obtain ⟨rfl, rfl⟩ := q1
      repeat refine kX_one rfl ?_
      refine kX_ialdN rfl rfl (by decide) (mpl (nI k) a c) rfl (mpl_lt _ _ _) ?_
      refine kX_iastN rfl rfl (by decide) (t) (by first | rfl | decide) (ht) ?_
      repeat refine kX_one rfl ?_
      refine kX_iastN rfl rfl (by decide) (mpl (nI k) a c) rfl (mpl_lt _ _ _) ?_
      refine kX_ret (i := .return_) (len := 1) rfl (Or.inr rfl) rfl ⟨rfl, ?_⟩
      unfold mLay
      rw [if_neg (show ¬ k ≤ 3 by omega), ← hg]
      rfl
  repeat refine kX_one rfl ?_
  refine kX_if (fun q => ?_) (fun q => ?_)
  · have q : k = 3 := nI_inj (qeq q)
    iterate 1 (refine kX_one rfl ?_)
    exact tail _ (by unfold mgv; (repeat' split) <;> first | rfl | omega | contradiction)
  · have q3 : k ≠ 3 := fun e => qeqF q (by rw [e]; decide)
    repeat refine kX_one rfl ?_
    rcases h with ⟨h1, rfl, rfl⟩ | ⟨h1, rfl, rfl, h4, h5⟩ | ⟨h1, rfl, rfl, h4⟩
    · iterate 4 (refine kX_one rfl ?_)
      exact tail _ (by unfold mgv; (repeat' split) <;> first | rfl | omega | contradiction)
    · repeat refine kX_one rfl ?_
      refine kX_ifF (decide_eq_false (nI_pos (by omega))) ?_
      repeat refine kX_one rfl ?_
      refine kX_baldN rfl rfl (by decide) (x) (by first | rfl | decide) (by omega) ?_
      repeat refine kX_one rfl ?_
      refine kX_if (fun q1 => ?_) (fun q1 => ?_)
      · have q1 : σ 237 x = 0 := qeq q1
        iterate 1 (refine kX_one rfl ?_)
        exact tail _ (by unfold mgv; (repeat' split) <;> first | rfl | omega | contradiction)
      · have q1 : σ 237 x ≠ 0 := qeqF q1
        iterate 1 (refine kX_one rfl ?_)
        repeat refine kX_one rfl ?_
        refine kX_ifF (decide_eq_false (nI_pos (by omega))) ?_
        repeat refine kX_one rfl ?_
        refine kX_baldN rfl rfl (by decide) (y) (by first | rfl | decide) (by omega) ?_
        repeat refine kX_one rfl ?_
        refine kX_if (fun q2 => ?_) (fun q2 => ?_)
        · have q2 : σ 237 y = 0 := qeq q2
          iterate 1 (refine kX_one rfl ?_)
          exact tail _ (by unfold mgv; (repeat' split) <;> first | rfl | omega | contradiction)
        · have q2 : σ 237 y ≠ 0 := qeqF q2
          iterate 2 (refine kX_one rfl ?_)
          exact tail _ (by unfold mgv; (repeat' split) <;> first | rfl | omega | contradiction)
    · repeat refine kX_one rfl ?_
      refine kX_ifF (decide_eq_false (nI_pos (by omega))) ?_
      repeat refine kX_one rfl ?_
      refine kX_baldN rfl rfl (by decide) (x) (by first | rfl | decide) (by omega) ?_
      repeat refine kX_one rfl ?_
      refine kX_if (fun q1 => ?_) (fun q1 => ?_)
      · have q1 : σ 237 x = 0 := qeq q1
        iterate 1 (refine kX_one rfl ?_)
        exact tail _ (by unfold mgv; (repeat' split) <;> first | rfl | omega | contradiction)
      · have q1 : σ 237 x ≠ 0 := qeqF q1
        iterate 4 (refine kX_one rfl ?_)
        exact tail _ (by unfold mgv; (repeat' split) <;> first | rfl | omega | contradiction)
