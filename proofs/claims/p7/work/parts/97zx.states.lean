/-! the class: the STATES of the search -/
set_option maxRecDepth 100000 in
set_option maxHeartbeats 4000000 in
theorem mc_stSlot (L : Nat) (xs : Nat → Int32) (d : Nat) (σ : kS) (w : Int32) : kXM kT L xs (d + 1) 88 [.ref 202, .int w] σ (fun r σ' => (∃ k, k < 1024 ∧ r = some (.int (nI k))) ∧ σ = σ') := by
  have loop : ∀ q : Nat × Int32, q.1 ≤ 28 → kX kT L xs (d + 1) 88 5 [(3, .int (nI q.1)), (2, .int q.2), (0, .ref 202), (1, .int w)] [] σ (fun r σ' => (∃ k, k < 1024 ∧ r = some (.int (nI k))) ∧ σ = σ') := by
    refine kX_while (fun q : Nat × Int32 => [(3, .int (nI q.1)), (2, .int q.2), (0, .ref 202), (1, .int w)]) (fun _ => σ) _ (fun q => 28 - q.1) ?_
    rintro ⟨i, m⟩ i1 ih
    dsimp only at i1 ih ⊢
    have k31 : kX kT L xs (d + 1) 88 31 [(3, .int (nI i)), (2, .int m), (0, .ref 202), (1, .int w)] [] σ (fun r σ' => (∃ k, k < 1024 ∧ r = some (.int (nI k))) ∧ σ = σ') := by
      repeat refine kX_one rfl ?_
      refine kX_ret (i := .ireturn) (len := 1) rfl (Or.inr rfl) rfl ⟨?_, rfl⟩
      exact (pk_andE _ (m := (Int16.ofInt 1023).toInt32) 10 (by decide)).imp (fun k hk => ⟨hk.1, congrArg (fun z => some (Value.int z)) hk.2⟩)
    repeat refine kX_one rfl ?_
    refine kX_if (fun q => ?_) (fun q => ?_)
    · exact k31
    · repeat refine kX_one rfl ?_
      refine kX_if (fun q2 => ?_) (fun q2 => ?_)
      · exact k31
      · have q2 := qgeF q2 i 28
        iterate 5 (refine kX_one rfl ?_)
        refine kX_ialdN rfl rfl (by decide) (i) (by first | rfl | decide) (q2) ?_
        iterate 4 (refine kX_one rfl ?_)
        have := fun m' => ih (i + 1, m') q2 (by simp only; omega)
        dsimp only at this
        rw [← nI_1] at this
        exact kX_lv _ rfl rfl rfl (this _)
  unfold kXM
  iterate 4 (refine kX_one rfl ?_)
  exact kX_lv _ rfl rfl rfl (loop (0, 17) (Nat.zero_le _))
set_option maxRecDepth 100000 in
set_option maxHeartbeats 4000000 in
theorem mc_isSame (L : Nat) (xs : Nat → Int32) (d : Nat) (σ : kS) (w : Int32) (base : Nat) (hb : base + 28 ≤ 16800) : kXM kT L xs (d + 1) 90 [.ref 196, .ref 202, .int w, .int (nI base)] σ (fun r σ' => (r = some (.int 0) ∨ r = some (.int 1)) ∧ σ = σ') := by
  have loop : ∀ q : Nat, q ≤ 28 → kX kT L xs (d + 1) 90 3 [(4, .int (nI q)), (0, .ref 196), (1, .ref 202), (2, .int w), (3, .int (nI base))] [] σ (fun r σ' => (r = some (.int 0) ∨ r = some (.int 1)) ∧ σ = σ') := by
    refine kX_while (fun q => [(4, .int (nI q)), (0, .ref 196), (1, .ref 202), (2, .int w), (3, .int (nI base))]) (fun _ => σ) _ (fun q => 28 - q) ?_
    intro i i1 ih
    repeat refine kX_one rfl ?_
    refine kX_if (fun q => ?_) (fun q => ?_)
    · repeat refine kX_one rfl ?_
      refine kX_ret (i := .ireturn) (len := 1) rfl (Or.inr rfl) rfl (⟨Or.inr rfl, rfl⟩)
    · repeat refine kX_one rfl ?_
      refine kX_if (fun q2 => ?_) (fun q2 => ?_)
      · repeat refine kX_one rfl ?_
        refine kX_ret (i := .ireturn) (len := 1) rfl (Or.inr rfl) rfl (⟨Or.inr rfl, rfl⟩)
      · have q2 := qgeF q2 i 28
        iterate 2 (refine kX_one rfl ?_)
        refine kX_ialdN rfl rfl (by decide) (i) (by first | rfl | decide) (q2) ?_
        iterate 5 (refine kX_one rfl ?_)
        refine kX_top (y := nI (base + i)) (nI_add base i) ?_
        refine kX_ialdN rfl rfl (by decide) (base + i) (by first | rfl | decide) (by omega) ?_
        repeat refine kX_one rfl ?_
        refine kX_if (fun q3 => ?_) (fun q3 => ?_)
        · iterate 2 (refine kX_one rfl ?_)
          have := ih (i + 1) q2 (by omega)
          rw [← nI_1] at this
          exact kX_lv _ rfl rfl rfl this
        · repeat refine kX_one rfl ?_
          refine kX_ret (i := .ireturn) (len := 1) rfl (Or.inr rfl) rfl (⟨Or.inl rfl, rfl⟩)
  unfold kXM
  iterate 2 (refine kX_one rfl ?_)
  exact kX_lv _ rfl rfl rfl (loop 0 (Nat.zero_le _))
set_option maxRecDepth 100000 in
set_option maxHeartbeats 4000000 in
theorem mc_stHas (L : Nat) (xs : Nat → Int32) (d : Nat) (σ : kS) (w : Int32) (N : Nat) (hN : N ≤ 600) (hc : σ 196 5 = nI N) : kXM kT L xs (d + 2) 89 [.ref 196, .ref 202, .int w] σ (fun r σ' => (r = some (.int 0) ∨ r = some (.int 1)) ∧ σ = σ') := by
  have loop : ∀ q : Nat × Int32, q.1 ≤ 600 → kX kT L xs (d + 2) 89 14 [(4, .int (nI q.1)), (3, .int q.2), (0, .ref 196), (1, .ref 202), (2, .int w)] [] σ (fun r σ' => (r = some (.int 0) ∨ r = some (.int 1)) ∧ σ = σ') := by
    refine kX_while (fun q : Nat × Int32 => [(4, .int (nI q.1)), (3, .int q.2), (0, .ref 196), (1, .ref 202), (2, .int w)]) (fun _ => σ) _ (fun q => 600 - q.1) ?_
    rintro ⟨i, x⟩ i1 ih
    dsimp only at i1 ih ⊢
    repeat refine kX_one rfl ?_
    refine kX_if (fun q => ?_) (fun q => ?_)
    · repeat refine kX_one rfl ?_
      refine kX_ret (i := .ireturn) (len := 1) rfl (Or.inr rfl) rfl (⟨Or.inl rfl, rfl⟩)
    · have q := qgeF q i 600
      repeat refine kX_one rfl ?_
      refine kX_if (fun q2 => ?_) (fun q2 => ?_)
      · repeat refine kX_one rfl ?_
        refine kX_ret (i := .ireturn) (len := 1) rfl (Or.inr rfl) rfl (⟨Or.inl rfl, rfl⟩)
      · have q2 : ¬ x < 0 := of_decide_eq_false q2
        obtain ⟨s, hs, rfl⟩ := nI_of q2
        iterate 3 (refine kX_one rfl ?_)
        refine kX_top (hc) ?_
        repeat refine kX_one rfl ?_
        refine kX_if (fun q3 => ?_) (fun q3 => ?_)
        · repeat refine kX_one rfl ?_
          refine kX_ret (i := .ireturn) (len := 1) rfl (Or.inr rfl) rfl (⟨Or.inl rfl, rfl⟩)
        · have q3 := qgeF q3 s N
          iterate 6 (refine kX_one rfl ?_)
          refine kX_top (y := nI (s * 28)) (pk_mul s 28) ?_
          refine kX_cal (mc_isSame L xs d σ w (s * 28) (by omega)) rfl (Or.inr rfl) rfl rfl rfl (fun r1 σ1 q1 => ?_)
          obtain ⟨hq, rfl⟩ := q1
          rcases hq with rfl | rfl
          · iterate 4 (refine kX_one rfl ?_)
            refine kX_ialdN rfl rfl (by decide) (s) (by first | rfl | decide) (by omega) ?_
            iterate 3 (refine kX_one rfl ?_)
            have := fun m' => ih (i + 1, m') q (by simp only; omega)
            dsimp only at this
            rw [← nI_1] at this
            exact kX_lv _ rfl rfl rfl (this _)
          · repeat refine kX_one rfl ?_
            refine kX_ret (i := .ireturn) (len := 1) rfl (Or.inr rfl) rfl (⟨Or.inr rfl, rfl⟩)
  unfold kXM
  iterate 4 (refine kX_one rfl ?_)
  refine kX_cal (mc_stSlot L xs d σ w) rfl (Or.inr rfl) rfl rfl rfl (fun r1 σ1 q1 => ?_)
  obtain ⟨⟨k, k1, rfl⟩, rfl⟩ := q1
  refine kX_ialdN rfl rfl (by decide) (k) (by first | rfl | decide) (k1) ?_
  iterate 3 (refine kX_one rfl ?_)
  exact kX_lv _ rfl rfl rfl (loop (0, _) (Nat.zero_le _))
def stA (σ τ : kS) (N : Nat) (f s : Int32) : Prop := (∀ c, c < 196 ∨ 202 ≤ c → τ c = σ c) ∧ τ 197 = va_cpy (σ 202) (σ 197) 0 (28 * N) 28 ∧ τ 198 = upd (σ 198) N f ∧ τ 199 = upd (σ 199) N s ∧ τ 196 5 = nI (N + 1)
set_option maxRecDepth 100000 in
set_option maxHeartbeats 4000000 in
theorem mc_stAdd (L : Nat) (xs : Nat → Int32) (d : Nat) (σ : kS) (w f s : Int32) (N : Nat) (hN : N < 600) (hc : σ 196 5 = nI N) : kXM kT L xs (d + 2) 91 [.ref 196, .ref 202, .int w, .int f, .int s] σ (fun r σ' => r = none ∧ stA σ σ' N f s) := by
  unfold kXM
  iterate 2 (refine kX_one rfl ?_)
  refine kX_top (hc) ?_
  repeat refine kX_one rfl ?_
  refine kX_if (fun q => ?_) (fun q => ?_)
  · have q := qge q N 600
    omega
  · iterate 2 (refine kX_one rfl ?_)
    refine kX_cal (mc_stSlot L xs d σ w) rfl (Or.inr rfl) rfl rfl rfl (fun r1 σ1 q1 => ?_)
    obtain ⟨⟨k, k1, rfl⟩, rfl⟩ := q1
    iterate 7 (refine kX_one rfl ?_)
    refine kX_top (hc) ?_
    iterate 2 (refine kX_one rfl ?_)
    refine kX_top (y := nI (28 * N)) (by rw [Nat.mul_comm]; exact pk_mul N 28) ?_
    iterate 1 (refine kX_one rfl ?_)
    refine kX_acpyN (n0 := 28) (n1 := 16800) (f0 := fun _ => 0) (g0 := fun _ => 0) rfl rfl rfl rfl rfl rfl 0 (28 * N) 28 rfl rfl rfl (by decide) (by omega) (by decide) (by decide) (Nat.zero_le 8) ?_
    iterate 4 (refine kX_one rfl ?_)
    refine kX_top (hc) ?_
    iterate 1 (refine kX_one rfl ?_)
    refine kX_iastN rfl rfl (by decide) (N) (by first | rfl | decide) (hN) ?_
    iterate 4 (refine kX_one rfl ?_)
    refine kX_top (hc) ?_
    iterate 1 (refine kX_one rfl ?_)
    refine kX_iastN rfl rfl (by decide) (N) (by first | rfl | decide) (hN) ?_
    iterate 4 (refine kX_one rfl ?_)
    refine kX_top (hc) ?_
    iterate 3 (refine kX_one rfl ?_)
    refine kX_ialdN rfl rfl (by decide) (k) (by first | rfl | decide) (k1) ?_
    refine kX_iastN rfl rfl (by decide) (N) (by first | rfl | decide) (hN) ?_
    iterate 5 (refine kX_one rfl ?_)
    refine kX_top (hc) ?_
    refine kX_iastN rfl rfl (by decide) (k) (by first | rfl | decide) (k1) ?_
    iterate 3 (refine kX_one rfl ?_)
    refine kX_top (hc) ?_
    iterate 2 (refine kX_one rfl ?_)
    refine kX_top (y := nI (N + 1)) (nI_1 N) ?_
    iterate 1 (refine kX_one rfl ?_)
    refine kX_ret (i := .return_) (len := 1) rfl (Or.inr rfl) rfl ⟨rfl, fun c hc => ?_, rfl, rfl, rfl, rfl⟩
    rw [up_ne (by omega), up_ne (by omega), up_ne (by omega), up_ne (by omega), up_ne (by omega), up_ne (by omega)]
