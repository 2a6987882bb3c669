/-! p1: the rest of the calls on fresh objects (wip/gen_p1c.py) -/
section KIF
variable {T : List jC} {L : Nat} {xs : Nat → Int32} {d mi pc : Nat} {lv : jL} {st : List Value} {σ : kS} {Q : Option Value → kS → Prop}
theorem kX_ifT {c : Bool} {p1 p2 : Nat} (h : c = true) (g : kX T L xs d mi p1 lv st σ Q) : kX T L xs d mi (if c = true then p1 else p2) lv st σ Q := by
  rw [if_pos h]
  exact g
theorem kX_ifF {c : Bool} {p1 p2 : Nat} (h : c = false) (g : kX T L xs d mi p2 lv st σ Q) : kX T L xs d mi (if c = true then p1 else p2) lv st σ Q := by
  rw [if_neg (by rw [h]; exact Bool.false_ne_true)]
  exact g
end KIF
theorem kup_up (σ : kS) (a : Nat) (f g : Nat → Int32) : va_up (va_up σ a f) a g = va_up σ a g := by
  funext k
  unfold va_up
  split
  · rfl
  · rfl
theorem kup_self (σ : kS) (a : Nat) : va_up σ a (σ a) = σ := by
  funext k
  unfold va_up
  split
  · next h => rw [h]
  · rfl
theorem kup_at (σ : kS) (a : Nat) (f : Nat → Int32) : va_up σ a f a = f := if_pos rfl
set_option maxRecDepth 100000 in
theorem kb_loop (L : Nat) (xs : Nat → Int32) (d : Nat) (σ : kS) (Q : Option Value → kS → Prop) (he : ∀ f, kX kT L xs (d + 1) 179 39 [(1, .int (nI 1000)), (0, .ref 232)] [] (va_up σ 271 f) Q) : ∀ (m i : Nat), i + m = 1000 → ∀ f, kX kT L xs (d + 1) 179 19 [(1, .int (nI i)), (0, .ref 232)] [] (va_up σ 271 f) Q := by
  intro m
  have h16 : (Int16.ofInt 1000).toInt32 = nI 1000 := by decide
  induction m with
  | zero =>
    intro i hi f
    have hi : i = 1000 := by omega
    subst hi
    refine kX_one rfl ?_
    refine kX_one rfl ?_
    refine kX_one rfl ?_
    refine kX_ifT (by show jcmp .ge (nI 1000) (Int16.ofInt 1000).toInt32 = true; decide) ?_
    exact he f
  | succ m ih =>
    intro i hi f
    have hlt : i < 1000 := by omega
    refine kX_one rfl ?_
    refine kX_one rfl ?_
    refine kX_one rfl ?_
    refine kX_ifF (by show jcmp .ge (nI i) (Int16.ofInt 1000).toInt32 = false; rw [h16]; exact decide_eq_false (nI_ge hlt (by decide))) ?_
    refine kX_one rfl ?_
    refine kX_one rfl ?_
    refine kX_one rfl ?_
    refine kX_one rfl ?_
    refine kX_bast rfl rfl (decide_eq_true (nI_in hlt (by decide))) (Or.inl rfl) ?_
    refine kX_one rfl ?_
    refine kX_one rfl ?_
    rw [kup_up]
    have := ih (i + 1) (by omega)
    rw [nI_succ] at this
    exact this _
theorem kb_begin {L : Nat} {xs : Nat → Int32} {d : Nat} {σ : kS} {Q : Option Value → kS → Prop} (he : ∀ f, kX kT L xs (d + 1) 179 39 [(1, .int (nI 1000)), (0, .ref 232)] [] (va_up σ 271 f) Q) : kX kT L xs (d + 1) 179 19 [(1, .int 0), (0, .ref 232)] [] σ Q := by
  have := kb_loop L xs d σ Q he 1000 0 rfl (σ 271)
  rw [kup_self, nI_0] at this
  exact this
set_option maxRecDepth 100000 in
set_option maxHeartbeats 16000000 in
theorem kq_role (L : Nat) (xs : Nat → Int32) (σ : kS) : kXM kT L xs 200 114 [.ref 0] (kz σ) (fun r σ' => r = some (.int 0) ∧ kKeep (kz σ) σ') := by
  unfold kXM
  repeat first
    | refine kb_begin (fun f9 => ?_)
    | refine kX_one rfl ?_
    | (refine kX_cal (kX_fill L xs _ _ _ rfl (by decide)) rfl (Or.inr rfl) rfl rfl rfl ?_; intro r9 s9 q9; obtain ⟨rfl, rfl⟩ := q9)
    | (refine kX_cal (kX_empty L xs _ _ _ _ rfl rfl rfl) rfl (Or.inr rfl) rfl rfl rfl ?_; intro r9 s9 q9; obtain ⟨rfl, rfl⟩ := q9)
    | refine kX_inl rfl (Or.inr rfl) rfl rfl rfl ?_
    | refine kX_ret rfl (Or.inr rfl) rfl ?_
    | refine kX_ifT (by show jcmp .lt ((200 : Int32) - 1) 200 = true; decide) ?_
    | refine kX_bast rfl rfl (by show jin ((0 : Int32) + 1 - 1) 200 = true; decide) (by first | exact Or.inl rfl | exact Or.inr rfl) ?_
  exact ⟨by first | rfl | exact congrArg (fun x => some (Value.int x)) (show ((0 : Int32) + 1 - 1) = 0 by decide), by repeat first | exact kKeep.rf | refine kKeep.up ?_ (by decide)⟩
set_option maxRecDepth 100000 in
set_option maxHeartbeats 16000000 in
theorem kr_agent0 (L : Nat) (xs : Nat → Int32) (σ σ1 : kS) : kXM kT L xs 200 155 [.ref 232, .int 0] (va_up σ1 232 (kz σ 232)) (fun r _ => r = some (.int 0)) := by
  unfold kXM
  repeat first
    | refine kb_begin (fun f9 => ?_)
    | refine kX_one rfl ?_
    | (refine kX_cal (kX_fill L xs _ _ _ rfl (by decide)) rfl (Or.inr rfl) rfl rfl rfl ?_; intro r9 s9 q9; obtain ⟨rfl, rfl⟩ := q9)
    | (refine kX_cal (kX_empty L xs _ _ _ _ rfl rfl rfl) rfl (Or.inr rfl) rfl rfl rfl ?_; intro r9 s9 q9; obtain ⟨rfl, rfl⟩ := q9)
    | refine kX_inl rfl (Or.inr rfl) rfl rfl rfl ?_
    | refine kX_ret rfl (Or.inr rfl) rfl ?_
    | refine kX_ifT (by show jcmp .lt ((200 : Int32) - 1) 200 = true; decide) ?_
    | refine kX_bast rfl rfl (by show jin ((0 : Int32) + 1 - 1) 200 = true; decide) (by first | exact Or.inl rfl | exact Or.inr rfl) ?_
  first | rfl | exact congrArg (fun x => some (Value.int x)) (show ((0 : Int32) + 1 - 1) = 0 by decide)
set_option maxRecDepth 100000 in
set_option maxHeartbeats 16000000 in
theorem kr_agent1 (L : Nat) (xs : Nat → Int32) (σ σ1 : kS) : kXM kT L xs 200 155 [.ref 232, .int 1] (va_up σ1 232 (kz σ 232)) (fun r _ => r = some (.int 0)) := by
  unfold kXM
  repeat first
    | refine kb_begin (fun f9 => ?_)
    | refine kX_one rfl ?_
    | (refine kX_cal (kX_fill L xs _ _ _ rfl (by decide)) rfl (Or.inr rfl) rfl rfl rfl ?_; intro r9 s9 q9; obtain ⟨rfl, rfl⟩ := q9)
    | (refine kX_cal (kX_empty L xs _ _ _ _ rfl rfl rfl) rfl (Or.inr rfl) rfl rfl rfl ?_; intro r9 s9 q9; obtain ⟨rfl, rfl⟩ := q9)
    | refine kX_inl rfl (Or.inr rfl) rfl rfl rfl ?_
    | refine kX_ret rfl (Or.inr rfl) rfl ?_
    | refine kX_ifT (by show jcmp .lt ((200 : Int32) - 1) 200 = true; decide) ?_
    | refine kX_bast rfl rfl (by show jin ((0 : Int32) + 1 - 1) 200 = true; decide) (by first | exact Or.inl rfl | exact Or.inr rfl) ?_
  first | rfl | exact congrArg (fun x => some (Value.int x)) (show ((0 : Int32) + 1 - 1) = 0 by decide)
set_option maxRecDepth 100000 in
set_option maxHeartbeats 16000000 in
theorem kr_atom1 (L : Nat) (xs : Nat → Int32) (σ σ1 : kS) : kXM kT L xs 200 156 [.ref 232, .int 1] (va_up σ1 232 (kz σ 232)) (fun r _ => r = some (.int 0)) := by
  unfold kXM
  repeat first
    | refine kb_begin (fun f9 => ?_)
    | refine kX_one rfl ?_
    | (refine kX_cal (kX_fill L xs _ _ _ rfl (by decide)) rfl (Or.inr rfl) rfl rfl rfl ?_; intro r9 s9 q9; obtain ⟨rfl, rfl⟩ := q9)
    | (refine kX_cal (kX_empty L xs _ _ _ _ rfl rfl rfl) rfl (Or.inr rfl) rfl rfl rfl ?_; intro r9 s9 q9; obtain ⟨rfl, rfl⟩ := q9)
    | refine kX_inl rfl (Or.inr rfl) rfl rfl rfl ?_
    | refine kX_ret rfl (Or.inr rfl) rfl ?_
    | refine kX_ifT (by show jcmp .lt ((200 : Int32) - 1) 200 = true; decide) ?_
    | refine kX_bast rfl rfl (by show jin ((0 : Int32) + 1 - 1) 200 = true; decide) (by first | exact Or.inl rfl | exact Or.inr rfl) ?_
  first | rfl | exact congrArg (fun x => some (Value.int x)) (show ((0 : Int32) + 1 - 1) = 0 by decide)
set_option maxRecDepth 100000 in
set_option maxHeartbeats 16000000 in
theorem kr_atom2 (L : Nat) (xs : Nat → Int32) (σ σ1 : kS) : kXM kT L xs 200 156 [.ref 232, .int 2] (va_up σ1 232 (kz σ 232)) (fun r _ => r = some (.int 0)) := by
  unfold kXM
  repeat first
    | refine kb_begin (fun f9 => ?_)
    | refine kX_one rfl ?_
    | (refine kX_cal (kX_fill L xs _ _ _ rfl (by decide)) rfl (Or.inr rfl) rfl rfl rfl ?_; intro r9 s9 q9; obtain ⟨rfl, rfl⟩ := q9)
    | (refine kX_cal (kX_empty L xs _ _ _ _ rfl rfl rfl) rfl (Or.inr rfl) rfl rfl rfl ?_; intro r9 s9 q9; obtain ⟨rfl, rfl⟩ := q9)
    | refine kX_inl rfl (Or.inr rfl) rfl rfl rfl ?_
    | refine kX_ret rfl (Or.inr rfl) rfl ?_
    | refine kX_ifT (by show jcmp .lt ((200 : Int32) - 1) 200 = true; decide) ?_
    | refine kX_bast rfl rfl (by show jin ((0 : Int32) + 1 - 1) 200 = true; decide) (by first | exact Or.inl rfl | exact Or.inr rfl) ?_
  first | rfl | exact congrArg (fun x => some (Value.int x)) (show ((0 : Int32) + 1 - 1) = 0 by decide)
set_option maxRecDepth 100000 in
set_option maxHeartbeats 16000000 in
theorem kr_role (L : Nat) (xs : Nat → Int32) (σ σ1 : kS) : kXM kT L xs 200 162 [.ref 232] (va_up σ1 232 (kz σ 232)) (fun r _ => r = some (.int 0)) := by
  unfold kXM
  repeat first
    | refine kb_begin (fun f9 => ?_)
    | refine kX_one rfl ?_
    | (refine kX_cal (kX_fill L xs _ _ _ rfl (by decide)) rfl (Or.inr rfl) rfl rfl rfl ?_; intro r9 s9 q9; obtain ⟨rfl, rfl⟩ := q9)
    | (refine kX_cal (kX_empty L xs _ _ _ _ rfl rfl rfl) rfl (Or.inr rfl) rfl rfl rfl ?_; intro r9 s9 q9; obtain ⟨rfl, rfl⟩ := q9)
    | refine kX_inl rfl (Or.inr rfl) rfl rfl rfl ?_
    | refine kX_ret rfl (Or.inr rfl) rfl ?_
    | refine kX_ifT (by show jcmp .lt ((200 : Int32) - 1) 200 = true; decide) ?_
    | refine kX_bast rfl rfl (by show jin ((0 : Int32) + 1 - 1) 200 = true; decide) (by first | exact Or.inl rfl | exact Or.inr rfl) ?_
  first | rfl | exact congrArg (fun x => some (Value.int x)) (show ((0 : Int32) + 1 - 1) = 0 by decide)
set_option maxRecDepth 100000 in
set_option maxHeartbeats 16000000 in
theorem kr_clear (L : Nat) (xs : Nat → Int32) (σ σ1 : kS) : kXM kT L xs 200 226 [.ref 232] (va_up σ1 232 (kz σ 232)) (fun r _ => r = some (.int 0)) := by
  unfold kXM
  repeat first
    | refine kb_begin (fun f9 => ?_)
    | refine kX_one rfl ?_
    | (refine kX_cal (kX_fill L xs _ _ _ rfl (by decide)) rfl (Or.inr rfl) rfl rfl rfl ?_; intro r9 s9 q9; obtain ⟨rfl, rfl⟩ := q9)
    | (refine kX_cal (kX_empty L xs _ _ _ _ rfl rfl rfl) rfl (Or.inr rfl) rfl rfl rfl ?_; intro r9 s9 q9; obtain ⟨rfl, rfl⟩ := q9)
    | refine kX_inl rfl (Or.inr rfl) rfl rfl rfl ?_
    | refine kX_ret rfl (Or.inr rfl) rfl ?_
    | refine kX_ifT (by show jcmp .lt ((200 : Int32) - 1) 200 = true; decide) ?_
    | refine kX_bast rfl rfl (by show jin ((0 : Int32) + 1 - 1) 200 = true; decide) (by first | exact Or.inl rfl | exact Or.inr rfl) ?_
  first | rfl | exact congrArg (fun x => some (Value.int x)) (show ((0 : Int32) + 1 - 1) = 0 by decide)
theorem kq_atomN (L : Nat) (xs : Nat → Int32) (d : Nat) (σ : kS) (w : Int32) (h1 : w ≠ 1) (h2 : w ≠ 2) : kXM kT L xs (d + 1) 110 [.ref 0, .int w] σ (fun r σ' => r = some (.int (-2)) ∧ σ' = σ) := by
  unfold kXM
  repeat refine kX_one rfl ?_
  refine kX_ifF (decide_eq_false h1) ?_
  repeat refine kX_one rfl ?_
  refine kX_ifF (decide_eq_false h2) ?_
  repeat refine kX_one rfl ?_
  exact kX_ret (i := .ireturn) (len := 1) rfl (Or.inr rfl) rfl ⟨rfl, rfl⟩
theorem km_long (w : Int32) (lo hi : Int64) : (lo ≤ w.toInt64 ∧ w.toInt64 ≤ hi) ↔ (lo.toInt ≤ w.toInt ∧ w.toInt ≤ hi.toInt) := by
  rw [Int64.le_iff_toInt_le, Int64.le_iff_toInt_le, Int32.toInt_toInt64]
theorem kr_atomN (L : Nat) (xs : Nat → Int32) (d : Nat) (σ : kS) (w : Int32) (h1 : w ≠ 1) (h2 : w ≠ 2) : kXM kT L xs (d + 2) 156 [.ref 232, .int w] σ (fun r σ' => r = some (.int (-2)) ∧ σ' = σ) := by
  unfold kXM
  repeat refine kX_one rfl ?_
  refine kX_cal (km_in L xs d σ w.toInt64 1 2) rfl (Or.inr rfl) rfl rfl rfl (fun r1 σ1 q1 => ?_)
  obtain ⟨rfl, rfl⟩ := q1
  rw [if_neg (fun q => by
    have := (km_long w 1 2).mp q
    have e1 : (1 : Int64).toInt = 1 := by decide
    have e2 : (2 : Int64).toInt = 2 := by decide
    rw [e1, e2] at this
    rcases (show w.toInt = 1 ∨ w.toInt = 2 by omega) with h | h
    · exact h1 (Int32.toInt_inj.mp (by rw [h]; decide))
    · exact h2 (Int32.toInt_inj.mp (by rw [h]; decide)))]
  repeat refine kX_one rfl ?_
  exact kX_ret (i := .ireturn) (len := 1) rfl (Or.inr rfl) rfl ⟨rfl, rfl⟩
theorem km_row (L : Nat) (xs : Nat → Int32) (d : Nat) (σ : kS) (i w : Int32) (h1 : σ 232 52 = 0) : kXM kT L xs (d + 2) 204 [.ref 232, .int i, .int w] σ (fun r σ' => r = some (.int (kp_rw w)) ∧ σ' = σ) := by
  unfold kXM
  repeat refine kX_one rfl ?_
  refine kX_cal (km_in L xs d σ w.toInt64 0 4) rfl (Or.inr rfl) rfl rfl rfl (fun r1 σ1 q1 => ?_)
  obtain ⟨rfl, rfl⟩ := q1
  have e1 : (0 : Int64).toInt = 0 := by decide
  have e2 : (4 : Int64).toInt = 4 := by decide
  have e3 : (0 : Int32).toInt = 0 := by decide
  have e4 : (4 : Int32).toInt = 4 := by decide
  by_cases q : (0 : Int64) ≤ w.toInt64 ∧ w.toInt64 ≤ 4
  · have hq := (km_long w 0 4).mp q
    rw [e1, e2] at hq
    rw [if_pos q]
    repeat refine kX_one rfl ?_
    rw [h1]
    repeat refine kX_one rfl ?_
    exact kX_ret (i := .ireturn) (len := 1) rfl (Or.inr rfl) rfl ⟨by rw [show kp_rw w = -3 from if_neg (fun g => by rw [Int32.lt_iff_toInt_lt, Int32.lt_iff_toInt_lt, e3, e4] at g; omega)]; rfl, rfl⟩
  · have hq : ¬ (0 ≤ w.toInt ∧ w.toInt ≤ 4) := fun g => q ((km_long w 0 4).mpr (by rw [e1, e2]; exact g))
    rw [if_neg q]
    repeat refine kX_one rfl ?_
    exact kX_ret (i := .ireturn) (len := 1) rfl (Or.inr rfl) rfl ⟨by rw [show kp_rw w = -2 from if_pos (by rw [Int32.lt_iff_toInt_lt, Int32.lt_iff_toInt_lt, e3, e4]; omega)]; rfl, rfl⟩
