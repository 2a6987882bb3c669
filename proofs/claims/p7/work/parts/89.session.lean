/-! the reference: howManyAs, session -/
/-- how many of the first k VARIABLES of the role r are told as a -/
def hma (σ : kS) (r a : Nat) : Nat → Nat
  | 0 => 0
  | k + 1 => hma σ r a k + if σ 246 (6 * r + k) = nI a then 1 else 0
theorem hma_le (σ : kS) (r a : Nat) : ∀ k, hma σ r a k ≤ k
  | 0 => Nat.le_refl _
  | k + 1 => by
    have := hma_le σ r a k
    unfold hma
    split <;> omega
set_option maxRecDepth 100000 in
set_option maxHeartbeats 4000000 in
theorem mr_howManyAs (L : Nat) (xs : Nat → Int32) (d : Nat) (σ : kS) (r a v : Nat) (hr : r < 4) (ha : a < 3) (hv6 : v ≤ 6) (hv : σ 244 r = nI v) : kXM kT L xs (d + 1) 169 [.ref 232, .int (nI r), .int (nI a)] σ (fun x σ' => x = some (.int (nI (hma σ r a v))) ∧ σ = σ') := by
  unfold kXM
  have loop : ∀ k, k ≤ v → kX kT L xs (d + 1) 169 5 [(4, .int (nI k)), (3, .int (nI (hma σ r a k))), (0, .ref 232), (1, .int (nI r)), (2, .int (nI a))] [] σ (fun x σ' => x = some (.int (nI (hma σ r a v))) ∧ σ = σ') := by
    refine kX_while (fun k : Nat => [(4, .int (nI k)), (3, .int (nI (hma σ r a k))), (0, .ref 232), (1, .int (nI r)), (2, .int (nI a))]) (fun _ => σ) _ (fun k => v - k) ?_
    intro k hk ih
    iterate 4 (refine kX_one rfl ?_)
    refine kX_ialdV rfl rfl (by decide) (r) (by first | rfl | decide) (by omega) (hv) ?_
    repeat refine kX_one rfl ?_
    refine kX_if (fun q => ?_) (fun q => ?_)
    · have q := qge q k v
      obtain rfl : k = v := by omega
      repeat refine kX_one rfl ?_
      refine kX_ret (i := .ireturn) (len := 1) rfl (Or.inr rfl) rfl (⟨rfl, rfl⟩)
    · have q := qgeF q k v
      iterate 8 (refine kX_one rfl ?_)
      refine kX_ialdN rfl rfl (by decide) (6 * r + k) (ix6 r k) (by omega) ?_
      have := ih (k + 1) q (by omega)
      rw [← nI_1] at this
      repeat refine kX_one rfl ?_
      refine kX_if (fun q => ?_) (fun q => ?_)
      · have e : hma σ r a (k + 1) = hma σ r a k := by
          rw [hma, if_neg (qne q), Nat.add_zero]
        rw [e] at this
        iterate 2 (refine kX_one rfl ?_)
        refine kX_top (show nI (hma σ r a k) + 0 = nI (hma σ r a k) from Int32.add_zero _) ?_
        iterate 3 (refine kX_one rfl ?_)
        exact kX_lv _ rfl rfl rfl this
      · have e : hma σ r a (k + 1) = hma σ r a k + 1 := by
          rw [hma, if_pos (qneF q)]
        rw [e] at this
        iterate 3 (refine kX_one rfl ?_)
        refine kX_top (show nI (hma σ r a k) + 1 = nI (hma σ r a k + 1) from (nI_succ _).symm) ?_
        iterate 3 (refine kX_one rfl ?_)
        exact kX_lv _ rfl rfl rfl this
  iterate 4 (refine kX_one rfl ?_)
  exact kX_lv _ rfl rfl rfl (loop 0 (Nat.zero_le _))
