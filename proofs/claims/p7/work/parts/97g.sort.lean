/-! the reference: isOfSort, nextOf, howMany -/
/-- the VARIABLE's TERM v may stand for the TERM t -/
def ofs (σ : kS) (v t : Nat) : Prop := tgd (σ 233) (σ 234) (σ 235) t = true ∧ (σ 240 v = nI 3 ∨ σ 233 t = σ 240 v)
set_option maxRecDepth 100000 in
set_option maxHeartbeats 4000000 in
theorem mr_isOfSort (L : Nat) (xs : Nat → Int32) (d : Nat) (σ : kS) (n b t v : Nat) (h : mTb σ n b) (ht : t < n) (hv : v < 200) : kXM kT L xs (d + 1) 214 [.ref 232, .int (nI t), .int (nI v)] σ (fun r σ' => r = some (.int (isB (ofs σ v t))) ∧ σ = σ') := by
  have hn := h.1
  unfold kXM
  repeat refine kX_one rfl ?_
  refine kX_baldV rfl rfl (by decide) (t) (by first | rfl | decide) (by omega) (h.2.2.2.2.2.2.1 t (Or.inl ht)) ?_
  repeat refine kX_one rfl ?_
  refine kX_if (fun q => ?_) (fun q => ?_)
  · have q := (bI_eq _).mp (qeq q)
    repeat refine kX_one rfl ?_
    refine kX_ret (i := .ireturn) (len := 1) rfl (Or.inr rfl) rfl (⟨by rw [isB_F (fun z => by have := z.1; rw [q] at this; cases this)]; rfl, rfl⟩)
  · have q := (bI_ne _).mp (qeqF q)
    iterate 3 (refine kX_one rfl ?_)
    refine kX_ialdN rfl rfl (by decide) (v) (by first | rfl | decide) (hv) ?_
    repeat refine kX_one rfl ?_
    refine kX_if (fun q2 => ?_) (fun q2 => ?_)
    · have q2 : σ 240 v = nI 3 := qeq q2
      repeat refine kX_one rfl ?_
      refine kX_ret (i := .ireturn) (len := 1) rfl (Or.inr rfl) rfl (⟨by rw [isB_T ⟨q, Or.inl q2⟩]; rfl, rfl⟩)
    · have q2 : σ 240 v ≠ nI 3 := qeqF q2
      iterate 3 (refine kX_one rfl ?_)
      refine kX_ialdN rfl rfl (by decide) (t) (by first | rfl | decide) (by omega) ?_
      iterate 3 (refine kX_one rfl ?_)
      refine kX_ialdN rfl rfl (by decide) (v) (by first | rfl | decide) (hv) ?_
      repeat refine kX_one rfl ?_
      refine kX_if (fun q3 => ?_) (fun q3 => ?_)
      · have q3 : σ 233 t ≠ σ 240 v := qne q3
        repeat refine kX_one rfl ?_
        refine kX_ret (i := .ireturn) (len := 1) rfl (Or.inr rfl) rfl (⟨by rw [isB_F (fun z => z.2.elim q2 q3)]; rfl, rfl⟩)
      · have q3 : σ 233 t = σ 240 v := qneF q3
        repeat refine kX_one rfl ?_
        refine kX_ret (i := .ireturn) (len := 1) rfl (Or.inr rfl) rfl (⟨by rw [isB_T ⟨q, Or.inr q3⟩]; rfl, rfl⟩)
/-- the first such TERM from t on -/
def nxo (σ : kS) (n v t : Nat) (r : Option Value) : Prop := (r = some (.int (-1)) ∧ ∀ z, t ≤ z → z < n → ¬ ofs σ v z) ∨ ∃ z, t ≤ z ∧ z < n ∧ ofs σ v z ∧ (∀ y, t ≤ y → y < z → ¬ ofs σ v y) ∧ r = some (.int (nI z))
set_option maxRecDepth 100000 in
set_option maxHeartbeats 4000000 in
theorem mr_nextOf (L : Nat) (xs : Nat → Int32) (d : Nat) (σ : kS) (n b v t : Nat) (h : mTb σ n b) (hv : v < 200) (ht : t ≤ n) : kXM kT L xs (d + 2) 215 [.ref 232, .int (nI v), .int (nI t)] σ (fun r σ' => nxo σ n v t r ∧ σ = σ') := by
  have hn := h.1
  unfold kXM
  have loop : ∀ k : Nat, (t ≤ k ∧ k ≤ n ∧ ∀ y, t ≤ y → y < k → ¬ ofs σ v y) → kX kT L xs (d + 2) 215 2 [(3, .int (nI k)), (0, .ref 232), (1, .int (nI v)), (2, .int (nI t))] [] σ (fun r σ' => nxo σ n v t r ∧ σ = σ') := by
    refine kX_while (fun k : Nat => [(3, .int (nI k)), (0, .ref 232), (1, .int (nI v)), (2, .int (nI t))]) (fun _ => σ) _ (fun k => n - k) ?_
    rintro k ⟨k1, k2, k3⟩ ih
    iterate 3 (refine kX_one rfl ?_)
    refine kX_top (h.2.2.2.1) ?_
    repeat refine kX_one rfl ?_
    refine kX_if (fun q => ?_) (fun q => ?_)
    · have q := qge q k n
      obtain rfl : k = n := by omega
      iterate 3 (refine kX_one rfl ?_)
      refine kX_top (h.2.2.2.1) ?_
      repeat refine kX_one rfl ?_
      refine kX_if (fun q2 => ?_) (fun q2 => ?_)
      · repeat refine kX_one rfl ?_
        refine kX_ret (i := .ireturn) (len := 1) rfl (Or.inr rfl) rfl (⟨Or.inl ⟨rfl, fun z z1 z2 => k3 z z1 z2⟩, rfl⟩)
      · have q2 := qgeF q2 k k
        omega
    · have q := qgeF q k n
      iterate 3 (refine kX_one rfl ?_)
      refine kX_cal (mr_isOfSort L xs d σ n b k v h q hv) rfl (Or.inr rfl) rfl rfl rfl (fun r1 σ1 q1 => ?_)
      obtain ⟨rfl, rfl⟩ := q1
      repeat refine kX_one rfl ?_
      refine kX_if (fun q2 => ?_) (fun q2 => ?_)
      · have q2 := isB_ne.mp (qne q2)
        iterate 3 (refine kX_one rfl ?_)
        refine kX_top (h.2.2.2.1) ?_
        repeat refine kX_one rfl ?_
        refine kX_if (fun q3 => ?_) (fun q3 => ?_)
        · have q3 := qge q3 k n
          omega
        · repeat refine kX_one rfl ?_
          refine kX_ret (i := .ireturn) (len := 1) rfl (Or.inr rfl) rfl (⟨Or.inr ⟨k, k1, q, q2, k3, rfl⟩, rfl⟩)
      · have q2 : ¬ ofs σ v k := fun z => isB_ne.mpr z (qneF q2)
        iterate 2 (refine kX_one rfl ?_)
        have := ih (k + 1) ⟨by omega, q, fun y y1 y2 => by
          by_cases e : y = k
          · subst e
            exact q2
          · exact k3 y y1 (by omega)⟩ (by omega)
        rw [← nI_1] at this
        exact kX_lv _ rfl rfl rfl this
  iterate 2 (refine kX_one rfl ?_)
  exact kX_lv _ rfl rfl rfl (loop t ⟨Nat.le_refl _, ht, fun y y1 y2 => absurd y2 (by omega)⟩)
set_option maxRecDepth 100000 in
set_option maxHeartbeats 4000000 in
theorem mr_howMany (L : Nat) (xs : Nat → Int32) (d : Nat) (σ : kS) (n b v : Nat) (h : mTb σ n b) (hv : v < 200) : kXM kT L xs (d + 2) 216 [.ref 232, .int (nI v)] σ (fun r σ' => r = some (.int (nI (cnt (ofs σ v) n))) ∧ σ = σ') := by
  have hn := h.1
  unfold kXM
  have loop : ∀ k : Nat, k ≤ n → kX kT L xs (d + 2) 216 4 [(3, .int (nI k)), (2, .int (nI (cnt (ofs σ v) k))), (0, .ref 232), (1, .int (nI v))] [] σ (fun r σ' => r = some (.int (nI (cnt (ofs σ v) n))) ∧ σ = σ') := by
    refine kX_while (fun k : Nat => [(3, .int (nI k)), (2, .int (nI (cnt (ofs σ v) k))), (0, .ref 232), (1, .int (nI v))]) (fun _ => σ) (fun k => k ≤ n) (fun k => n - k) ?_
    intro k k2 ih
    iterate 3 (refine kX_one rfl ?_)
    refine kX_top (h.2.2.2.1) ?_
    repeat refine kX_one rfl ?_
    refine kX_if (fun q => ?_) (fun q => ?_)
    · have q := qge q k n
      obtain rfl : k = n := by omega
      repeat refine kX_one rfl ?_
      refine kX_ret (i := .ireturn) (len := 1) rfl (Or.inr rfl) rfl (⟨rfl, rfl⟩)
    · have q := qgeF q k n
      have k27 : ∀ m, cnt (ofs σ v) (k + 1) = cnt (ofs σ v) k + m → kX kT L xs (d + 2) 216 27 [(3, .int (nI k)), (2, .int (nI (cnt (ofs σ v) k))), (0, .ref 232), (1, .int (nI v))] [.int (nI m), .int (nI (cnt (ofs σ v) k))] σ (fun r σ' => r = some (.int (nI (cnt (ofs σ v) n))) ∧ σ = σ') := by
        intro m hm
        iterate 4 (refine kX_one rfl ?_)
        have := ih (k + 1) q (by omega)
        rw [← nI_1, hm, ← nI_add] at this
        exact kX_lv _ rfl rfl rfl this
      iterate 4 (refine kX_one rfl ?_)
      refine kX_cal (mr_isOfSort L xs d σ n b k v h q hv) rfl (Or.inr rfl) rfl rfl rfl (fun r1 σ1 q1 => ?_)
      obtain ⟨rfl, rfl⟩ := q1
      repeat refine kX_one rfl ?_
      refine kX_if (fun q2 => ?_) (fun q2 => ?_)
      · have q2 : ¬ ofs σ v k := fun z => isB_ne.mpr z (qeq q2)
        iterate 1 (refine kX_one rfl ?_)
        exact k27 0 (by rw [cnt, if_neg q2])
      · have q2 := isB_ne.mp (qeqF q2)
        iterate 2 (refine kX_one rfl ?_)
        exact k27 1 (by rw [cnt, if_pos q2])
  iterate 4 (refine kX_one rfl ?_)
  exact kX_lv _ rfl rfl rfl (loop 0 (Nat.zero_le _))
theorem cnt_0 {f : Nat → Prop} : ∀ {m : Nat}, cnt f m ≠ 0 → ∃ z, z < m ∧ f z
  | 0, h => absurd rfl h
  | m + 1, h => by
    unfold cnt at h
    split at h
    · next e => exact ⟨m, by omega, e⟩
    · obtain ⟨z, z1, z2⟩ := cnt_0 (m := m) (by omega)
      exact ⟨z, by omega, z2⟩
