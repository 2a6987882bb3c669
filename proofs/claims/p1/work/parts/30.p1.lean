/-! p1: one call on fresh objects (wip/gen_p1.py) -/
theorem kp_lt {t : Int32} (h : jcmp .lt t 0 = false) : jcmp .ge t 0 = true := decide_eq_true (Int32.not_lt.mp (of_decide_eq_false h))
/-- the reference's cells stay -/
def kKeep (σ σ' : kS) : Prop := ∀ k, 232 ≤ k → σ' k = σ k
theorem kKeep.rf {σ : kS} : kKeep σ σ := fun _ _ => rfl
theorem kKeep.up {σ σ' : kS} (h : kKeep σ σ') {a : Nat} {f : Nat → Int32} (ha : a < 232) : kKeep σ (va_up σ' a f) := fun k hk => by
  have : k ≠ a := by omega
  simp [va_up, this, h k hk]
theorem kKeep.tr {σ σ1 σ' : kS} (h : kKeep σ σ1) (g : kKeep σ1 σ') : kKeep σ σ' := fun k hk => (g k hk).trans (h k hk)
theorem kp_has (L : Nat) (xs : Nat → Int32) (d : Nat) (σ : kS) (t : Int32) (h1 : σ 1 11 = 0) : kXM kT L xs (d + 1) 95 [.ref 1, .int t] σ (fun r σ' => r = some (.int 0) ∧ σ' = σ) := by
  unfold kXM
  repeat refine kX_one rfl ?_
  refine kX_if (fun q1 => ?_) (fun q1 => ?_)
  · repeat refine kX_one rfl ?_
    exact kX_ret (i := .ireturn) (len := 1) rfl (Or.inr rfl) rfl ⟨rfl, rfl⟩
  · repeat refine kX_one rfl ?_
    refine kX_if (fun q2 => ?_) (fun q2 => ?_)
    · repeat refine kX_one rfl ?_
      exact kX_ret (i := .ireturn) (len := 1) rfl (Or.inr rfl) rfl ⟨rfl, rfl⟩
    · rw [show σ 1 11 = 0 from h1, kp_lt q1] at q2
      cases q2
theorem kp_hasRole (L : Nat) (xs : Nat → Int32) (d : Nat) (σ : kS) (t : Int32) (h1 : σ 13 2 = 0) : kXM kT L xs (d + 1) 3 [.ref 13, .int t] σ (fun r σ' => r = some (.int 0) ∧ σ' = σ) := by
  unfold kXM
  repeat refine kX_one rfl ?_
  refine kX_if (fun q1 => ?_) (fun q1 => ?_)
  · repeat refine kX_one rfl ?_
    exact kX_ret (i := .ireturn) (len := 1) rfl (Or.inr rfl) rfl ⟨rfl, rfl⟩
  · repeat refine kX_one rfl ?_
    refine kX_if (fun q2 => ?_) (fun q2 => ?_)
    · repeat refine kX_one rfl ?_
      exact kX_ret (i := .ireturn) (len := 1) rfl (Or.inr rfl) rfl ⟨rfl, rfl⟩
    · rw [show σ 13 2 = 0 from h1, kp_lt q1] at q2
      cases q2
theorem kp_hasSession (L : Nat) (xs : Nat → Int32) (d : Nat) (σ : kS) (t : Int32) (h1 : σ 13 6 = 0) : kXM kT L xs (d + 1) 4 [.ref 13, .int t] σ (fun r σ' => r = some (.int 0) ∧ σ' = σ) := by
  unfold kXM
  repeat refine kX_one rfl ?_
  refine kX_if (fun q1 => ?_) (fun q1 => ?_)
  · repeat refine kX_one rfl ?_
    exact kX_ret (i := .ireturn) (len := 1) rfl (Or.inr rfl) rfl ⟨rfl, rfl⟩
  · repeat refine kX_one rfl ?_
    refine kX_if (fun q2 => ?_) (fun q2 => ?_)
    · repeat refine kX_one rfl ?_
      exact kX_ret (i := .ireturn) (len := 1) rfl (Or.inr rfl) rfl ⟨rfl, rfl⟩
    · rw [show σ 13 6 = 0 from h1, kp_lt q1] at q2
      cases q2
theorem kp_hasClaim (L : Nat) (xs : Nat → Int32) (d : Nat) (σ : kS) (t : Int32) (h1 : σ 13 8 = 0) : kXM kT L xs (d + 1) 5 [.ref 13, .int t] σ (fun r σ' => r = some (.int 0) ∧ σ' = σ) := by
  unfold kXM
  repeat refine kX_one rfl ?_
  refine kX_if (fun q1 => ?_) (fun q1 => ?_)
  · repeat refine kX_one rfl ?_
    exact kX_ret (i := .ireturn) (len := 1) rfl (Or.inr rfl) rfl ⟨rfl, rfl⟩
  · repeat refine kX_one rfl ?_
    refine kX_if (fun q2 => ?_) (fun q2 => ?_)
    · repeat refine kX_one rfl ?_
      exact kX_ret (i := .ireturn) (len := 1) rfl (Or.inr rfl) rfl ⟨rfl, rfl⟩
    · rw [show σ 13 8 = 0 from h1, kp_lt q1] at q2
      cases q2
theorem kp_hasVariable (L : Nat) (xs : Nat → Int32) (d : Nat) (σ : kS) (t v : Int32) (h1 : σ 13 2 = 0) : kXM kT L xs (d + 2) 6 [.ref 13, .int t, .int v] σ (fun r σ' => r = some (.int 0) ∧ σ' = σ) := by
  unfold kXM
  repeat refine kX_one rfl ?_
  refine kX_cal (kp_hasRole L xs d σ t h1) rfl (Or.inr rfl) rfl rfl rfl (fun r1 σ1 q1 => ?_)
  obtain ⟨rfl, rfl⟩ := q1
  repeat refine kX_one rfl ?_
  exact kX_ret (i := .ireturn) (len := 1) rfl (Or.inr rfl) rfl ⟨rfl, rfl⟩
theorem kp_term (L : Nat) (xs : Nat → Int32) (d : Nat) (σ : kS) (k x y : Int32) (h1 : σ 1 11 = 0) : kXM kT L xs (d + 2) 111 [.ref 0, .int k, .int x, .int y] σ (fun r σ' => r = some (.int (-1)) ∧ σ' = σ) := by
  unfold kXM
  repeat refine kX_one rfl ?_
  refine kX_cal (kp_has L xs d σ x h1) rfl (Or.inr rfl) rfl rfl rfl (fun r1 σ1 q1 => ?_)
  obtain ⟨rfl, rfl⟩ := q1
  repeat refine kX_one rfl ?_
  exact kX_ret (i := .ireturn) (len := 1) rfl (Or.inr rfl) rfl ⟨rfl, rfl⟩
theorem kp_of (L : Nat) (xs : Nat → Int32) (d : Nat) (σ : kS) (k x y : Int32) (h1 : σ 1 11 = 0) : kXM kT L xs (d + 2) 112 [.ref 0, .int k, .int x, .int y] σ (fun r σ' => r = some (.int (-1)) ∧ σ' = σ) := by
  unfold kXM
  repeat refine kX_one rfl ?_
  refine kX_cal (kp_has L xs d σ y h1) rfl (Or.inr rfl) rfl rfl rfl (fun r1 σ1 q1 => ?_)
  obtain ⟨rfl, rfl⟩ := q1
  repeat refine kX_one rfl ?_
  exact kX_ret (i := .ireturn) (len := 1) rfl (Or.inr rfl) rfl ⟨rfl, rfl⟩
theorem kp_about (L : Nat) (xs : Nat → Int32) (d : Nat) (σ : kS) (x y : Int32) (h1 : σ 1 11 = 0) : kXM kT L xs (d + 2) 113 [.ref 0, .int x, .int y] σ (fun r σ' => r = some (.int (-1)) ∧ σ' = σ) := by
  unfold kXM
  repeat refine kX_one rfl ?_
  refine kX_cal (kp_has L xs d σ x h1) rfl (Or.inr rfl) rfl rfl rfl (fun r1 σ1 q1 => ?_)
  obtain ⟨rfl, rfl⟩ := q1
  repeat refine kX_one rfl ?_
  exact kX_ret (i := .ireturn) (len := 1) rfl (Or.inr rfl) rfl ⟨rfl, rfl⟩
theorem kp_variable (L : Nat) (xs : Nat → Int32) (d : Nat) (σ : kS) (x y z : Int32) (h1 : σ 13 2 = 0) : kXM kT L xs (d + 2) 115 [.ref 0, .int x, .int y, .int z] σ (fun r σ' => r = some (.int (-1)) ∧ σ' = σ) := by
  unfold kXM
  repeat refine kX_one rfl ?_
  refine kX_cal (kp_hasRole L xs d σ x h1) rfl (Or.inr rfl) rfl rfl rfl (fun r1 σ1 q1 => ?_)
  obtain ⟨rfl, rfl⟩ := q1
  repeat refine kX_one rfl ?_
  exact kX_ret (i := .ireturn) (len := 1) rfl (Or.inr rfl) rfl ⟨rfl, rfl⟩
theorem kp_event (L : Nat) (xs : Nat → Int32) (d : Nat) (σ : kS) (x y z : Int32) (h1 : σ 13 2 = 0) : kXM kT L xs (d + 2) 116 [.ref 0, .int x, .int y, .int z] σ (fun r σ' => r = some (.int (-1)) ∧ σ' = σ) := by
  unfold kXM
  repeat refine kX_one rfl ?_
  refine kX_cal (kp_hasRole L xs d σ x h1) rfl (Or.inr rfl) rfl rfl rfl (fun r1 σ1 q1 => ?_)
  obtain ⟨rfl, rfl⟩ := q1
  repeat refine kX_one rfl ?_
  exact kX_ret (i := .ireturn) (len := 1) rfl (Or.inr rfl) rfl ⟨rfl, rfl⟩
theorem kp_know (L : Nat) (xs : Nat → Int32) (d : Nat) (σ : kS) (x : Int32) (h1 : σ 1 11 = 0) : kXM kT L xs (d + 2) 117 [.ref 0, .int x] σ (fun r σ' => r = some (.int (-1)) ∧ σ' = σ) := by
  unfold kXM
  repeat refine kX_one rfl ?_
  refine kX_cal (kp_has L xs d σ x h1) rfl (Or.inr rfl) rfl rfl rfl (fun r1 σ1 q1 => ?_)
  obtain ⟨rfl, rfl⟩ := q1
  repeat refine kX_one rfl ?_
  exact kX_ret (i := .ireturn) (len := 1) rfl (Or.inr rfl) rfl ⟨rfl, rfl⟩
theorem kp_session (L : Nat) (xs : Nat → Int32) (d : Nat) (σ : kS) (x y z w : Int32) (h1 : σ 13 2 = 0) : kXM kT L xs (d + 2) 118 [.ref 0, .int x, .int y, .int z, .int w] σ (fun r σ' => r = some (.int (-1)) ∧ σ' = σ) := by
  unfold kXM
  repeat refine kX_one rfl ?_
  refine kX_cal (kp_hasRole L xs d σ x h1) rfl (Or.inr rfl) rfl rfl rfl (fun r1 σ1 q1 => ?_)
  obtain ⟨rfl, rfl⟩ := q1
  repeat refine kX_one rfl ?_
  exact kX_ret (i := .ireturn) (len := 1) rfl (Or.inr rfl) rfl ⟨rfl, rfl⟩
theorem kp_secret (L : Nat) (xs : Nat → Int32) (d : Nat) (σ : kS) (x y : Int32) (h1 : σ 13 2 = 0) : kXM kT L xs (d + 3) 119 [.ref 0, .int x, .int y] σ (fun r σ' => r = some (.int (-1)) ∧ σ' = σ) := by
  unfold kXM
  repeat refine kX_one rfl ?_
  refine kX_cal (kp_hasVariable L xs d σ x y h1) rfl (Or.inr rfl) rfl rfl rfl (fun r1 σ1 q1 => ?_)
  obtain ⟨rfl, rfl⟩ := q1
  repeat refine kX_one rfl ?_
  exact kX_ret (i := .ireturn) (len := 1) rfl (Or.inr rfl) rfl ⟨rfl, rfl⟩
theorem kp_agree (L : Nat) (xs : Nat → Int32) (d : Nat) (σ : kS) (x y z : Int32) (h1 : σ 13 2 = 0) : kXM kT L xs (d + 2) 120 [.ref 0, .int x, .int y, .int z] σ (fun r σ' => r = some (.int (-1)) ∧ σ' = σ) := by
  unfold kXM
  repeat refine kX_one rfl ?_
  refine kX_cal (kp_hasRole L xs d σ x h1) rfl (Or.inr rfl) rfl rfl rfl (fun r1 σ1 q1 => ?_)
  obtain ⟨rfl, rfl⟩ := q1
  repeat refine kX_one rfl ?_
  exact kX_ret (i := .ireturn) (len := 1) rfl (Or.inr rfl) rfl ⟨rfl, rfl⟩
theorem kp_join (L : Nat) (xs : Nat → Int32) (d : Nat) (σ : kS) (x y z : Int32) (h1 : σ 13 8 = 0) : kXM kT L xs (d + 2) 121 [.ref 0, .int x, .int y, .int z] σ (fun r σ' => r = some (.int (-1)) ∧ σ' = σ) := by
  unfold kXM
  repeat refine kX_one rfl ?_
  refine kX_cal (kp_hasClaim L xs d σ x h1) rfl (Or.inr rfl) rfl rfl rfl (fun r1 σ1 q1 => ?_)
  obtain ⟨rfl, rfl⟩ := q1
  repeat refine kX_one rfl ?_
  exact kX_ret (i := .ireturn) (len := 1) rfl (Or.inr rfl) rfl ⟨rfl, rfl⟩
theorem kp_send (L : Nat) (xs : Nat → Int32) (d : Nat) (σ : kS) (x : Int32) (h1 : σ 13 6 = 0) : kXM kT L xs (d + 2) 124 [.ref 0, .int x] σ (fun r σ' => r = some (.int (-1)) ∧ σ' = σ) := by
  unfold kXM
  repeat refine kX_one rfl ?_
  refine kX_cal (kp_hasSession L xs d σ x h1) rfl (Or.inr rfl) rfl rfl rfl (fun r1 σ1 q1 => ?_)
  obtain ⟨rfl, rfl⟩ := q1
  repeat refine kX_one rfl ?_
  exact kX_ret (i := .ireturn) (len := 1) rfl (Or.inr rfl) rfl ⟨rfl, rfl⟩
theorem kp_receive (L : Nat) (xs : Nat → Int32) (d : Nat) (σ : kS) (x y : Int32) (h1 : σ 13 6 = 0) : kXM kT L xs (d + 2) 125 [.ref 0, .int x, .int y] σ (fun r σ' => r = some (.int (-1)) ∧ σ' = σ) := by
  unfold kXM
  repeat refine kX_one rfl ?_
  refine kX_cal (kp_hasSession L xs d σ x h1) rfl (Or.inr rfl) rfl rfl rfl (fun r1 σ1 q1 => ?_)
  obtain ⟨rfl, rfl⟩ := q1
  repeat refine kX_one rfl ?_
  exact kX_ret (i := .ireturn) (len := 1) rfl (Or.inr rfl) rfl ⟨rfl, rfl⟩
theorem kp_makes (L : Nat) (xs : Nat → Int32) (d : Nat) (σ : kS) (x : Int32) (h1 : σ 1 11 = 0) : kXM kT L xs (d + 2) 126 [.ref 0, .int x] σ (fun r σ' => r = some (.int (-1)) ∧ σ' = σ) := by
  unfold kXM
  repeat refine kX_one rfl ?_
  refine kX_cal (kp_has L xs d σ x h1) rfl (Or.inr rfl) rfl rfl rfl (fun r1 σ1 q1 => ?_)
  obtain ⟨rfl, rfl⟩ := q1
  repeat refine kX_one rfl ?_
  exact kX_ret (i := .ireturn) (len := 1) rfl (Or.inr rfl) rfl ⟨rfl, rfl⟩
theorem kp_stands (L : Nat) (xs : Nat → Int32) (d : Nat) (σ : kS) (x y : Int32) (h1 : σ 13 6 = 0) : kXM kT L xs (d + 2) 128 [.ref 0, .int x, .int y] σ (fun r σ' => r = some (.int (-1)) ∧ σ' = σ) := by
  unfold kXM
  repeat refine kX_one rfl ?_
  refine kX_cal (kp_hasSession L xs d σ x h1) rfl (Or.inr rfl) rfl rfl rfl (fun r1 σ1 q1 => ?_)
  obtain ⟨rfl, rfl⟩ := q1
  repeat refine kX_one rfl ?_
  exact kX_ret (i := .ireturn) (len := 1) rfl (Or.inr rfl) rfl ⟨rfl, rfl⟩
theorem kp_done (L : Nat) (xs : Nat → Int32) (d : Nat) (σ : kS) (x : Int32) (h1 : σ 13 6 = 0) : kXM kT L xs (d + 2) 129 [.ref 0, .int x] σ (fun r σ' => r = some (.int (-1)) ∧ σ' = σ) := by
  unfold kXM
  repeat refine kX_one rfl ?_
  refine kX_cal (kp_hasSession L xs d σ x h1) rfl (Or.inr rfl) rfl rfl rfl (fun r1 σ1 q1 => ?_)
  obtain ⟨rfl, rfl⟩ := q1
  repeat refine kX_one rfl ?_
  exact kX_ret (i := .ireturn) (len := 1) rfl (Or.inr rfl) rfl ⟨rfl, rfl⟩
theorem kp_broken (L : Nat) (xs : Nat → Int32) (d : Nat) (σ : kS) (x : Int32) (h1 : σ 13 8 = 0) : kXM kT L xs (d + 2) 130 [.ref 0, .int x] σ (fun r σ' => r = some (.int (-1)) ∧ σ' = σ) := by
  unfold kXM
  repeat refine kX_one rfl ?_
  refine kX_cal (kp_hasClaim L xs d σ x h1) rfl (Or.inr rfl) rfl rfl rfl (fun r1 σ1 q1 => ?_)
  obtain ⟨rfl, rfl⟩ := q1
  repeat refine kX_one rfl ?_
  exact kX_ret (i := .ireturn) (len := 1) rfl (Or.inr rfl) rfl ⟨rfl, rfl⟩
theorem kp_ofRole (L : Nat) (xs : Nat → Int32) (d : Nat) (σ : kS) (x y : Int32) (h1 : σ 13 2 = 0) : kXM kT L xs (d + 2) 137 [.ref 0, .int x, .int y] σ (fun r σ' => r = some (.int (-1)) ∧ σ' = σ) := by
  unfold kXM
  repeat refine kX_one rfl ?_
  refine kX_cal (kp_hasRole L xs d σ x h1) rfl (Or.inr rfl) rfl rfl rfl (fun r1 σ1 q1 => ?_)
  obtain ⟨rfl, rfl⟩ := q1
  repeat refine kX_one rfl ?_
  exact kX_ret (i := .ireturn) (len := 1) rfl (Or.inr rfl) rfl ⟨rfl, rfl⟩
theorem kp_end (L : Nat) (xs : Nat → Int32) (d : Nat) (σ : kS) (h1 : σ 181 8 = 0) : kXM kT L xs (d + 1) 123 [.ref 0] σ (fun r σ' => r = some (.int (-3)) ∧ σ' = σ) := by
  unfold kXM
  repeat refine kX_one rfl ?_
  rw [h1]
  repeat refine kX_one rfl ?_
  exact kX_ret (i := .ireturn) (len := 1) rfl (Or.inr rfl) rfl ⟨rfl, rfl⟩
theorem kp_undo (L : Nat) (xs : Nat → Int32) (d : Nat) (σ : kS) (h1 : σ 181 8 = 0) : kXM kT L xs (d + 1) 131 [.ref 0] σ (fun r σ' => r = some (.int (-3)) ∧ σ' = σ) := by
  unfold kXM
  repeat refine kX_one rfl ?_
  rw [h1]
  repeat refine kX_one rfl ?_
  exact kX_ret (i := .ireturn) (len := 1) rfl (Or.inr rfl) rfl ⟨rfl, rfl⟩
theorem kp_hasAttack (L : Nat) (xs : Nat → Int32) (d : Nat) (σ : kS) (h1 : σ 195 9 = (-1)) : kXM kT L xs (d + 1) 77 [.ref 195] σ (fun r σ' => r = some (.int 0) ∧ σ' = σ) := by
  unfold kXM
  repeat refine kX_one rfl ?_
  rw [h1]
  repeat refine kX_one rfl ?_
  exact kX_ret (i := .ireturn) (len := 1) rfl (Or.inr rfl) rfl ⟨rfl, rfl⟩
theorem kp_attack (L : Nat) (xs : Nat → Int32) (d : Nat) (σ : kS) (x : Int32) (h1 : σ 195 9 = (-1)) : kXM kT L xs (d + 2) 134 [.ref 0, .int x] σ (fun r σ' => r = some (.int (-6)) ∧ σ' = σ) := by
  unfold kXM
  repeat refine kX_one rfl ?_
  refine kX_cal (kp_hasAttack L xs d σ h1) rfl (Or.inr rfl) rfl rfl rfl (fun r1 σ1 q1 => ?_)
  obtain ⟨rfl, rfl⟩ := q1
  repeat refine kX_one rfl ?_
  exact kX_ret (i := .ireturn) (len := 1) rfl (Or.inr rfl) rfl ⟨rfl, rfl⟩
theorem kp_play (L : Nat) (xs : Nat → Int32) (d : Nat) (σ : kS) (x : Int32) (h1 : σ 195 9 = (-1)) : kXM kT L xs (d + 2) 135 [.ref 0, .int x] σ (fun r σ' => r = some (.int (-3)) ∧ σ' = σ) := by
  unfold kXM
  repeat refine kX_one rfl ?_
  refine kX_cal (kp_hasAttack L xs d σ h1) rfl (Or.inr rfl) rfl rfl rfl (fun r1 σ1 q1 => ?_)
  obtain ⟨rfl, rfl⟩ := q1
  repeat refine kX_one rfl ?_
  exact kX_ret (i := .ireturn) (len := 1) rfl (Or.inr rfl) rfl ⟨rfl, rfl⟩
def kp_fd (w : Int32) : Int32 := if w = 0 then 0 else if w = 1 then 0 else if w = 2 then -6 else if w = 3 then 0 else -2
def kp_td (w : Int32) : Int32 := if w = 0 then 0 else if w = 1 then 0 else if w = 2 then 0 else if w = 3 then 0 else if w = 4 then 0 else if w = 5 then -6 else -2
def kp_rw (w : Int32) : Int32 := if w < 0 ∨ 4 < w then -2 else -3
theorem kp_found (L : Nat) (xs : Nat → Int32) (d : Nat) (σ : kS) (w : Int32) (h1 : σ 196 5 = 0) (h2 : σ 195 10 = 0) (h3 : σ 195 11 = 0) (h4 : σ 195 9 = (-1)) : kXM kT L xs (d + 2) 133 [.ref 0, .int w] σ (fun r σ' => r = some (.int (kp_fd w)) ∧ σ' = σ) := by
  unfold kXM
  repeat refine kX_one rfl ?_
  by_cases e0 : w = 0
  · subst e0
    repeat refine kX_one rfl ?_
    exact kX_ret (i := .ireturn) (len := 1) rfl (Or.inr rfl) rfl ⟨by (try simp only [h1, h2, h3, h4]); rfl, rfl⟩
  by_cases e1 : w = 1
  · subst e1
    repeat refine kX_one rfl ?_
    exact kX_ret (i := .ireturn) (len := 1) rfl (Or.inr rfl) rfl ⟨by (try simp only [h1, h2, h3, h4]); rfl, rfl⟩
  by_cases e2 : w = 2
  · subst e2
    repeat refine kX_one rfl ?_
    refine kX_cal (kp_hasAttack L xs d σ h4) rfl (Or.inr rfl) rfl rfl rfl (fun r1 σ1 q1 => ?_)
    obtain ⟨rfl, rfl⟩ := q1
    repeat refine kX_one rfl ?_
    exact kX_ret (i := .ireturn) (len := 1) rfl (Or.inr rfl) rfl ⟨by (try simp only [h1, h2, h3, h4]); rfl, rfl⟩
  by_cases e3 : w = 3
  · subst e3
    repeat refine kX_one rfl ?_
    exact kX_ret (i := .ireturn) (len := 1) rfl (Or.inr rfl) rfl ⟨by (try simp only [h1, h2, h3, h4]); rfl, rfl⟩
  refine kX_tabO rfl (kp_out 4 (fun k hk => ?_) (by decide)) rfl ?_
  · rcases (show k = 0 ∨ k = 1 ∨ k = 2 ∨ k = 3 by omega) with rfl | rfl | rfl | rfl
    · exact e0
    · exact e1
    · exact e2
    · exact e3
  · repeat refine kX_one rfl ?_
    exact kX_ret (i := .ireturn) (len := 1) rfl (Or.inr rfl) rfl ⟨by simp only [kp_fd, e0, e1, e2, e3, if_false]; rfl, rfl⟩
theorem kp_told (L : Nat) (xs : Nat → Int32) (d : Nat) (σ : kS) (w : Int32) (h1 : σ 1 11 = 0) (h2 : σ 13 2 = 0) (h3 : σ 13 6 = 0) (h4 : σ 13 8 = 0) (h5 : σ 13 10 = 0) (h6 : σ 181 8 = 0) : kXM kT L xs (d + 1) 136 [.ref 0, .int w] σ (fun r σ' => r = some (.int (kp_td w)) ∧ σ' = σ) := by
  unfold kXM
  repeat refine kX_one rfl ?_
  by_cases e0 : w = 0
  · subst e0
    repeat refine kX_one rfl ?_
    exact kX_ret (i := .ireturn) (len := 1) rfl (Or.inr rfl) rfl ⟨by (try simp only [h1, h2, h3, h4, h5, h6]); rfl, rfl⟩
  by_cases e1 : w = 1
  · subst e1
    repeat refine kX_one rfl ?_
    exact kX_ret (i := .ireturn) (len := 1) rfl (Or.inr rfl) rfl ⟨by (try simp only [h1, h2, h3, h4, h5, h6]); rfl, rfl⟩
  by_cases e2 : w = 2
  · subst e2
    repeat refine kX_one rfl ?_
    exact kX_ret (i := .ireturn) (len := 1) rfl (Or.inr rfl) rfl ⟨by (try simp only [h1, h2, h3, h4, h5, h6]); rfl, rfl⟩
  by_cases e3 : w = 3
  · subst e3
    repeat refine kX_one rfl ?_
    exact kX_ret (i := .ireturn) (len := 1) rfl (Or.inr rfl) rfl ⟨by (try simp only [h1, h2, h3, h4, h5, h6]); rfl, rfl⟩
  by_cases e4 : w = 4
  · subst e4
    repeat refine kX_one rfl ?_
    exact kX_ret (i := .ireturn) (len := 1) rfl (Or.inr rfl) rfl ⟨by (try simp only [h1, h2, h3, h4, h5, h6]); rfl, rfl⟩
  by_cases e5 : w = 5
  · subst e5
    repeat refine kX_one rfl ?_
    rw [h6]
    repeat refine kX_one rfl ?_
    exact kX_ret (i := .ireturn) (len := 1) rfl (Or.inr rfl) rfl ⟨by (try simp only [h1, h2, h3, h4, h5, h6]); rfl, rfl⟩
  refine kX_tabO rfl (kp_out 6 (fun k hk => ?_) (by decide)) rfl ?_
  · rcases (show k = 0 ∨ k = 1 ∨ k = 2 ∨ k = 3 ∨ k = 4 ∨ k = 5 by omega) with rfl | rfl | rfl | rfl | rfl | rfl
    · exact e0
    · exact e1
    · exact e2
    · exact e3
    · exact e4
    · exact e5
  · repeat refine kX_one rfl ?_
    exact kX_ret (i := .ireturn) (len := 1) rfl (Or.inr rfl) rfl ⟨by simp only [kp_td, e0, e1, e2, e3, e4, e5, if_false]; rfl, rfl⟩
theorem kp_row (L : Nat) (xs : Nat → Int32) (d : Nat) (σ : kS) (i w : Int32) (h1 : σ 181 8 = 0) : kXM kT L xs (d + 1) 127 [.ref 0, .int i, .int w] σ (fun r σ' => r = some (.int (kp_rw w)) ∧ σ' = σ) := by
  unfold kXM
  repeat refine kX_one rfl ?_
  refine kX_if (fun q1 => ?_) (fun q1 => ?_)
  · repeat refine kX_one rfl ?_
    exact kX_ret (i := .ireturn) (len := 1) rfl (Or.inr rfl) rfl ⟨by rw [show kp_rw w = -2 from if_pos (Or.inl (of_decide_eq_true q1))]; rfl, rfl⟩
  · repeat refine kX_one rfl ?_
    refine kX_if (fun q2 => ?_) (fun q2 => ?_)
    · repeat refine kX_one rfl ?_
      rw [h1]
      repeat refine kX_one rfl ?_
      exact kX_ret (i := .ireturn) (len := 1) rfl (Or.inr rfl) rfl ⟨by rw [show kp_rw w = -3 from if_neg (fun q => q.elim (of_decide_eq_false q1) (Int32.not_lt.mpr (of_decide_eq_true q2)))]; rfl, rfl⟩
    · repeat refine kX_one rfl ?_
      exact kX_ret (i := .ireturn) (len := 1) rfl (Or.inr rfl) rfl ⟨by rw [show kp_rw w = -2 from if_pos (Or.inr (Int32.not_le.mp (of_decide_eq_false q2)))]; rfl, rfl⟩
theorem km_lt1 {v w : Int64} (h : jcmp .lt (lg_cmp v w) 0 = true) : ¬ w ≤ v := by
  have h := of_decide_eq_true h
  unfold lg_cmp at h
  split at h
  · exact absurd h (by decide)
  · next h1 =>
    split at h
    · exact absurd h (by decide)
    · next h2 =>
      intro h3
      rcases Int64.le_iff_lt_or_eq.mp h3 with h4 | h4
      · exact h1 h4
      · exact h2 h4.symm
theorem km_lt2 {v w : Int64} (h : jcmp .lt (lg_cmp v w) 0 = false) : w ≤ v := by
  have h := of_decide_eq_false h
  unfold lg_cmp at h
  split at h
  · next h1 => exact Int64.le_of_lt h1
  · split at h
    · next h2 => rw [h2]; exact Int64.le_refl _
    · exact absurd (by decide) h
theorem km_gt1 {v w : Int64} (h : jcmp .gt (lg_cmp v w) 0 = true) : ¬ v ≤ w := by
  have h := of_decide_eq_true h
  unfold lg_cmp at h
  split at h
  · next h1 => exact Int64.not_le.mpr h1
  · split at h
    · exact absurd h (by decide)
    · exact absurd h (by decide)
theorem km_gt2 {v w : Int64} (h : jcmp .gt (lg_cmp v w) 0 = false) : v ≤ w := by
  have h := of_decide_eq_false h
  unfold lg_cmp at h
  split at h
  · exact absurd (by decide) h
  · next h1 => exact Int64.not_lt.mp h1
theorem km_in (L : Nat) (xs : Nat → Int32) (d : Nat) (σ : kS) (v lo hi : Int64) : kXM kT L xs (d + 1) 145 [.long v, .long lo, .long hi] σ (fun r σ' => r = some (.int (if lo ≤ v ∧ v ≤ hi then 1 else 0)) ∧ σ' = σ) := by
  unfold kXM
  repeat refine kX_one rfl ?_
  refine kX_if (fun q1 => ?_) (fun q1 => ?_)
  · repeat refine kX_one rfl ?_
    exact kX_ret (i := .ireturn) (len := 1) rfl (Or.inr rfl) rfl ⟨by rw [if_neg (fun q => km_lt1 q1 q.1)]; rfl, rfl⟩
  · repeat refine kX_one rfl ?_
    refine kX_if (fun q2 => ?_) (fun q2 => ?_)
    · repeat refine kX_one rfl ?_
      exact kX_ret (i := .ireturn) (len := 1) rfl (Or.inr rfl) rfl ⟨by rw [if_neg (fun q => km_gt1 q2 q.2)]; rfl, rfl⟩
    · repeat refine kX_one rfl ?_
      exact kX_ret (i := .ireturn) (len := 1) rfl (Or.inr rfl) rfl ⟨by rw [if_pos ⟨km_lt2 q1, km_gt2 q2⟩]; rfl, rfl⟩
theorem km_inNo (L : Nat) (xs : Nat → Int32) (d : Nat) (σ : kS) (v lo hi : Int64) (hw : hi < lo) : kXM kT L xs (d + 1) 145 [.long v, .long lo, .long hi] σ (fun r σ' => r = some (.int 0) ∧ σ' = σ) := kX_post (km_in L xs d σ v lo hi) (fun r σ' q => ⟨by rw [q.1, if_neg (fun q => absurd (Int64.le_trans q.1 q.2) (Int64.not_le.mpr hw))], q.2⟩)
theorem km_isTerm (L : Nat) (xs : Nat → Int32) (d : Nat) (σ : kS) (t : Int32) (h1 : σ 232 9 = 0) : kXM kT L xs (d + 2) 154 [.ref 232, .int t] σ (fun r σ' => r = some (.int 0) ∧ σ' = σ) := by
  unfold kXM
  repeat refine kX_one rfl ?_
  rw [h1]
  refine kX_cal (km_inNo L xs d _ _ _ _ (by decide)) rfl (Or.inr rfl) rfl rfl rfl (fun r1 σ1 q1 => ?_)
  obtain ⟨rfl, rfl⟩ := q1
  repeat refine kX_one rfl ?_
  exact kX_ret (i := .ireturn) (len := 1) rfl (Or.inr rfl) rfl ⟨rfl, rfl⟩
theorem km_isRole (L : Nat) (xs : Nat → Int32) (d : Nat) (σ : kS) (t : Int32) (h1 : σ 232 13 = 0) : kXM kT L xs (d + 2) 161 [.ref 232, .int t] σ (fun r σ' => r = some (.int 0) ∧ σ' = σ) := by
  unfold kXM
  repeat refine kX_one rfl ?_
  rw [h1]
  refine kX_cal (km_inNo L xs d _ _ _ _ (by decide)) rfl (Or.inr rfl) rfl rfl rfl (fun r1 σ1 q1 => ?_)
  obtain ⟨rfl, rfl⟩ := q1
  repeat refine kX_one rfl ?_
  exact kX_ret (i := .ireturn) (len := 1) rfl (Or.inr rfl) rfl ⟨rfl, rfl⟩
theorem km_isSession (L : Nat) (xs : Nat → Int32) (d : Nat) (σ : kS) (t : Int32) (h1 : σ 232 27 = 0) : kXM kT L xs (d + 2) 168 [.ref 232, .int t] σ (fun r σ' => r = some (.int 0) ∧ σ' = σ) := by
  unfold kXM
  repeat refine kX_one rfl ?_
  rw [h1]
  refine kX_cal (km_inNo L xs d _ _ _ _ (by decide)) rfl (Or.inr rfl) rfl rfl rfl (fun r1 σ1 q1 => ?_)
  obtain ⟨rfl, rfl⟩ := q1
  repeat refine kX_one rfl ?_
  exact kX_ret (i := .ireturn) (len := 1) rfl (Or.inr rfl) rfl ⟨rfl, rfl⟩
theorem km_term (L : Nat) (xs : Nat → Int32) (d : Nat) (σ : kS) (k x y : Int32) (h1 : σ 232 9 = 0) : kXM kT L xs (d + 3) 158 [.ref 232, .int k, .int x, .int y] σ (fun r σ' => r = some (.int (-1)) ∧ σ' = σ) := by
  unfold kXM
  repeat refine kX_one rfl ?_
  refine kX_cal (km_isTerm L xs d σ x h1) rfl (Or.inr rfl) rfl rfl rfl (fun r1 σ1 q1 => ?_)
  obtain ⟨rfl, rfl⟩ := q1
  repeat refine kX_one rfl ?_
  exact kX_ret (i := .ireturn) (len := 1) rfl (Or.inr rfl) rfl ⟨rfl, rfl⟩
theorem km_about (L : Nat) (xs : Nat → Int32) (d : Nat) (σ : kS) (x y : Int32) (h1 : σ 232 9 = 0) : kXM kT L xs (d + 3) 160 [.ref 232, .int x, .int y] σ (fun r σ' => r = some (.int (-1)) ∧ σ' = σ) := by
  unfold kXM
  repeat refine kX_one rfl ?_
  refine kX_cal (km_isTerm L xs d σ x h1) rfl (Or.inr rfl) rfl rfl rfl (fun r1 σ1 q1 => ?_)
  obtain ⟨rfl, rfl⟩ := q1
  repeat refine kX_one rfl ?_
  exact kX_ret (i := .ireturn) (len := 1) rfl (Or.inr rfl) rfl ⟨rfl, rfl⟩
theorem km_variable (L : Nat) (xs : Nat → Int32) (d : Nat) (σ : kS) (x y z : Int32) (h1 : σ 232 13 = 0) : kXM kT L xs (d + 3) 163 [.ref 232, .int x, .int y, .int z] σ (fun r σ' => r = some (.int (-1)) ∧ σ' = σ) := by
  unfold kXM
  repeat refine kX_one rfl ?_
  refine kX_cal (km_isRole L xs d σ x h1) rfl (Or.inr rfl) rfl rfl rfl (fun r1 σ1 q1 => ?_)
  obtain ⟨rfl, rfl⟩ := q1
  repeat refine kX_one rfl ?_
  exact kX_ret (i := .ireturn) (len := 1) rfl (Or.inr rfl) rfl ⟨rfl, rfl⟩
theorem km_event (L : Nat) (xs : Nat → Int32) (d : Nat) (σ : kS) (x y z : Int32) (h1 : σ 232 13 = 0) : kXM kT L xs (d + 3) 166 [.ref 232, .int x, .int y, .int z] σ (fun r σ' => r = some (.int (-1)) ∧ σ' = σ) := by
  unfold kXM
  repeat refine kX_one rfl ?_
  refine kX_cal (km_isRole L xs d σ x h1) rfl (Or.inr rfl) rfl rfl rfl (fun r1 σ1 q1 => ?_)
  obtain ⟨rfl, rfl⟩ := q1
  repeat refine kX_one rfl ?_
  exact kX_ret (i := .ireturn) (len := 1) rfl (Or.inr rfl) rfl ⟨rfl, rfl⟩
theorem km_know (L : Nat) (xs : Nat → Int32) (d : Nat) (σ : kS) (x : Int32) (h1 : σ 232 9 = 0) : kXM kT L xs (d + 3) 167 [.ref 232, .int x] σ (fun r σ' => r = some (.int (-1)) ∧ σ' = σ) := by
  unfold kXM
  repeat refine kX_one rfl ?_
  refine kX_cal (km_isTerm L xs d σ x h1) rfl (Or.inr rfl) rfl rfl rfl (fun r1 σ1 q1 => ?_)
  obtain ⟨rfl, rfl⟩ := q1
  repeat refine kX_one rfl ?_
  exact kX_ret (i := .ireturn) (len := 1) rfl (Or.inr rfl) rfl ⟨rfl, rfl⟩
theorem km_session (L : Nat) (xs : Nat → Int32) (d : Nat) (σ : kS) (x y z w : Int32) (h1 : σ 232 13 = 0) : kXM kT L xs (d + 3) 170 [.ref 232, .int x, .int y, .int z, .int w] σ (fun r σ' => r = some (.int (-1)) ∧ σ' = σ) := by
  unfold kXM
  repeat refine kX_one rfl ?_
  refine kX_cal (km_isRole L xs d σ x h1) rfl (Or.inr rfl) rfl rfl rfl (fun r1 σ1 q1 => ?_)
  obtain ⟨rfl, rfl⟩ := q1
  repeat refine kX_one rfl ?_
  exact kX_ret (i := .ireturn) (len := 1) rfl (Or.inr rfl) rfl ⟨rfl, rfl⟩
theorem km_secret (L : Nat) (xs : Nat → Int32) (d : Nat) (σ : kS) (x y : Int32) (h1 : σ 232 13 = 0) : kXM kT L xs (d + 3) 172 [.ref 232, .int x, .int y] σ (fun r σ' => r = some (.int (-1)) ∧ σ' = σ) := by
  unfold kXM
  repeat refine kX_one rfl ?_
  refine kX_cal (km_isRole L xs d σ x h1) rfl (Or.inr rfl) rfl rfl rfl (fun r1 σ1 q1 => ?_)
  obtain ⟨rfl, rfl⟩ := q1
  repeat refine kX_one rfl ?_
  exact kX_ret (i := .ireturn) (len := 1) rfl (Or.inr rfl) rfl ⟨rfl, rfl⟩
theorem km_agree (L : Nat) (xs : Nat → Int32) (d : Nat) (σ : kS) (x y z : Int32) (h1 : σ 232 13 = 0) : kXM kT L xs (d + 3) 173 [.ref 232, .int x, .int y, .int z] σ (fun r σ' => r = some (.int (-1)) ∧ σ' = σ) := by
  unfold kXM
  repeat refine kX_one rfl ?_
  refine kX_cal (km_isRole L xs d σ x h1) rfl (Or.inr rfl) rfl rfl rfl (fun r1 σ1 q1 => ?_)
  obtain ⟨rfl, rfl⟩ := q1
  repeat refine kX_one rfl ?_
  exact kX_ret (i := .ireturn) (len := 1) rfl (Or.inr rfl) rfl ⟨rfl, rfl⟩
theorem km_send (L : Nat) (xs : Nat → Int32) (d : Nat) (σ : kS) (x : Int32) (h1 : σ 232 27 = 0) : kXM kT L xs (d + 3) 195 [.ref 232, .int x] σ (fun r σ' => r = some (.int (-1)) ∧ σ' = σ) := by
  unfold kXM
  repeat refine kX_one rfl ?_
  refine kX_cal (km_isSession L xs d σ x h1) rfl (Or.inr rfl) rfl rfl rfl (fun r1 σ1 q1 => ?_)
  obtain ⟨rfl, rfl⟩ := q1
  repeat refine kX_one rfl ?_
  exact kX_ret (i := .ireturn) (len := 1) rfl (Or.inr rfl) rfl ⟨rfl, rfl⟩
theorem km_receive (L : Nat) (xs : Nat → Int32) (d : Nat) (σ : kS) (x y : Int32) (h1 : σ 232 27 = 0) : kXM kT L xs (d + 3) 197 [.ref 232, .int x, .int y] σ (fun r σ' => r = some (.int (-1)) ∧ σ' = σ) := by
  unfold kXM
  repeat refine kX_one rfl ?_
  refine kX_cal (km_isSession L xs d σ x h1) rfl (Or.inr rfl) rfl rfl rfl (fun r1 σ1 q1 => ?_)
  obtain ⟨rfl, rfl⟩ := q1
  repeat refine kX_one rfl ?_
  exact kX_ret (i := .ireturn) (len := 1) rfl (Or.inr rfl) rfl ⟨rfl, rfl⟩
theorem km_makes (L : Nat) (xs : Nat → Int32) (d : Nat) (σ : kS) (x : Int32) (h1 : σ 232 9 = 0) : kXM kT L xs (d + 3) 198 [.ref 232, .int x] σ (fun r σ' => r = some (.int (-1)) ∧ σ' = σ) := by
  unfold kXM
  repeat refine kX_one rfl ?_
  refine kX_cal (km_isTerm L xs d σ x h1) rfl (Or.inr rfl) rfl rfl rfl (fun r1 σ1 q1 => ?_)
  obtain ⟨rfl, rfl⟩ := q1
  repeat refine kX_one rfl ?_
  exact kX_ret (i := .ireturn) (len := 1) rfl (Or.inr rfl) rfl ⟨rfl, rfl⟩
theorem km_stands (L : Nat) (xs : Nat → Int32) (d : Nat) (σ : kS) (x y : Int32) (h1 : σ 232 27 = 0) : kXM kT L xs (d + 3) 205 [.ref 232, .int x, .int y] σ (fun r σ' => r = some (.int (-1)) ∧ σ' = σ) := by
  unfold kXM
  repeat refine kX_one rfl ?_
  refine kX_cal (km_isSession L xs d σ x h1) rfl (Or.inr rfl) rfl rfl rfl (fun r1 σ1 q1 => ?_)
  obtain ⟨rfl, rfl⟩ := q1
  repeat refine kX_one rfl ?_
  exact kX_ret (i := .ireturn) (len := 1) rfl (Or.inr rfl) rfl ⟨rfl, rfl⟩
theorem km_done (L : Nat) (xs : Nat → Int32) (d : Nat) (σ : kS) (x : Int32) (h1 : σ 232 27 = 0) : kXM kT L xs (d + 3) 206 [.ref 232, .int x] σ (fun r σ' => r = some (.int (-1)) ∧ σ' = σ) := by
  unfold kXM
  repeat refine kX_one rfl ?_
  refine kX_cal (km_isSession L xs d σ x h1) rfl (Or.inr rfl) rfl rfl rfl (fun r1 σ1 q1 => ?_)
  obtain ⟨rfl, rfl⟩ := q1
  repeat refine kX_one rfl ?_
  exact kX_ret (i := .ireturn) (len := 1) rfl (Or.inr rfl) rfl ⟨rfl, rfl⟩
theorem km_ofRole (L : Nat) (xs : Nat → Int32) (d : Nat) (σ : kS) (x y : Int32) (h1 : σ 232 13 = 0) : kXM kT L xs (d + 3) 225 [.ref 232, .int x, .int y] σ (fun r σ' => r = some (.int (-1)) ∧ σ' = σ) := by
  unfold kXM
  repeat refine kX_one rfl ?_
  refine kX_cal (km_isRole L xs d σ x h1) rfl (Or.inr rfl) rfl rfl rfl (fun r1 σ1 q1 => ?_)
  obtain ⟨rfl, rfl⟩ := q1
  repeat refine kX_one rfl ?_
  exact kX_ret (i := .ireturn) (len := 1) rfl (Or.inr rfl) rfl ⟨rfl, rfl⟩
theorem km_of (L : Nat) (xs : Nat → Int32) (d : Nat) (σ : kS) (k x y : Int32) (h1 : σ 232 9 = 0) : kXM kT L xs (d + 3) 159 [.ref 232, .int k, .int x, .int y] σ (fun r σ' => r = some (.int (-1)) ∧ σ' = σ) := by
  unfold kXM
  repeat refine kX_one rfl ?_
  refine kX_if (fun q0 => ?_) (fun q0 => ?_)
  · repeat refine kX_one rfl ?_
    refine kX_cal (km_isTerm L xs d σ y h1) rfl (Or.inr rfl) rfl rfl rfl (fun r1 σ1 q1 => ?_)
    obtain ⟨rfl, rfl⟩ := q1
    repeat refine kX_one rfl ?_
    exact kX_ret (i := .ireturn) (len := 1) rfl (Or.inr rfl) rfl ⟨rfl, rfl⟩
  · repeat refine kX_one rfl ?_
    refine kX_cal (km_isTerm L xs d σ x h1) rfl (Or.inr rfl) rfl rfl rfl (fun r1 σ1 q1 => ?_)
    obtain ⟨rfl, rfl⟩ := q1
    repeat refine kX_one rfl ?_
    exact kX_ret (i := .ireturn) (len := 1) rfl (Or.inr rfl) rfl ⟨rfl, rfl⟩
theorem km_join (L : Nat) (xs : Nat → Int32) (d : Nat) (σ : kS) (x y z : Int32) (h1 : σ 232 30 = 0) : kXM kT L xs (d + 3) 174 [.ref 232, .int x, .int y, .int z] σ (fun r σ' => r = some (.int (-1)) ∧ σ' = σ) := by
  unfold kXM
  repeat refine kX_one rfl ?_
  rw [h1]
  refine kX_cal (km_inNo L xs (d + 1) _ _ _ _ (by decide)) rfl (Or.inr rfl) rfl rfl rfl (fun r1 σ1 q1 => ?_)
  obtain ⟨rfl, rfl⟩ := q1
  repeat refine kX_one rfl ?_
  exact kX_ret (i := .ireturn) (len := 1) rfl (Or.inr rfl) rfl ⟨rfl, rfl⟩
theorem km_broken (L : Nat) (xs : Nat → Int32) (d : Nat) (σ : kS) (x : Int32) (h1 : σ 232 30 = 0) : kXM kT L xs (d + 3) 207 [.ref 232, .int x] σ (fun r σ' => r = some (.int (-1)) ∧ σ' = σ) := by
  unfold kXM
  repeat refine kX_one rfl ?_
  rw [h1]
  refine kX_cal (km_inNo L xs (d + 1) _ _ _ _ (by decide)) rfl (Or.inr rfl) rfl rfl rfl (fun r1 σ1 q1 => ?_)
  obtain ⟨rfl, rfl⟩ := q1
  repeat refine kX_one rfl ?_
  exact kX_ret (i := .ireturn) (len := 1) rfl (Or.inr rfl) rfl ⟨rfl, rfl⟩
theorem km_end (L : Nat) (xs : Nat → Int32) (d : Nat) (σ : kS) (h1 : σ 232 52 = 0) : kXM kT L xs (d + 1) 192 [.ref 232] σ (fun r σ' => r = some (.int (-3)) ∧ σ' = σ) := by
  unfold kXM
  repeat refine kX_one rfl ?_
  rw [h1]
  repeat refine kX_one rfl ?_
  exact kX_ret (i := .ireturn) (len := 1) rfl (Or.inr rfl) rfl ⟨rfl, rfl⟩
theorem km_undo (L : Nat) (xs : Nat → Int32) (d : Nat) (σ : kS) (h1 : σ 232 52 = 0) : kXM kT L xs (d + 1) 208 [.ref 232] σ (fun r σ' => r = some (.int (-3)) ∧ σ' = σ) := by
  unfold kXM
  repeat refine kX_one rfl ?_
  rw [h1]
  repeat refine kX_one rfl ?_
  exact kX_ret (i := .ireturn) (len := 1) rfl (Or.inr rfl) rfl ⟨rfl, rfl⟩
theorem km_attack (L : Nat) (xs : Nat → Int32) (d : Nat) (σ : kS) (x : Int32) (h1 : σ 232 72 = (-6)) : kXM kT L xs (d + 3) 222 [.ref 232, .int x] σ (fun r σ' => r = some (.int (-6)) ∧ σ' = σ) := by
  unfold kXM
  repeat refine kX_one rfl ?_
  rw [h1]
  refine kX_cal (km_inNo L xs (d + 1) _ _ _ _ (by decide)) rfl (Or.inr rfl) rfl rfl rfl (fun r1 σ1 q1 => ?_)
  obtain ⟨rfl, rfl⟩ := q1
  repeat refine kX_one rfl ?_
  exact kX_ret (i := .ireturn) (len := 1) rfl (Or.inr rfl) rfl ⟨rfl, rfl⟩
theorem km_play (L : Nat) (xs : Nat → Int32) (d : Nat) (σ : kS) (x : Int32) (h1 : σ 232 72 = (-6)) : kXM kT L xs (d + 1) 223 [.ref 232, .int x] σ (fun r σ' => r = some (.int (-3)) ∧ σ' = σ) := by
  unfold kXM
  repeat refine kX_one rfl ?_
  rw [h1]
  repeat refine kX_one rfl ?_
  exact kX_ret (i := .ireturn) (len := 1) rfl (Or.inr rfl) rfl ⟨rfl, rfl⟩
theorem km_found (L : Nat) (xs : Nat → Int32) (d : Nat) (σ : kS) (w : Int32) (h1 : σ 232 69 = 0) (h2 : σ 232 70 = 0) (h3 : σ 232 71 = 0) (h4 : σ 232 72 = (-6)) : kXM kT L xs (d + 1) 221 [.ref 232, .int w] σ (fun r σ' => r = some (.int (kp_fd w)) ∧ σ' = σ) := by
  unfold kXM
  repeat refine kX_one rfl ?_
  by_cases e0 : w = 0
  · subst e0
    repeat refine kX_one rfl ?_
    exact kX_ret (i := .ireturn) (len := 1) rfl (Or.inr rfl) rfl ⟨by (try simp only [h1, h2, h3, h4]); rfl, rfl⟩
  by_cases e1 : w = 1
  · subst e1
    repeat refine kX_one rfl ?_
    exact kX_ret (i := .ireturn) (len := 1) rfl (Or.inr rfl) rfl ⟨by (try simp only [h1, h2, h3, h4]); rfl, rfl⟩
  by_cases e2 : w = 2
  · subst e2
    repeat refine kX_one rfl ?_
    exact kX_ret (i := .ireturn) (len := 1) rfl (Or.inr rfl) rfl ⟨by (try simp only [h1, h2, h3, h4]); rfl, rfl⟩
  by_cases e3 : w = 3
  · subst e3
    repeat refine kX_one rfl ?_
    exact kX_ret (i := .ireturn) (len := 1) rfl (Or.inr rfl) rfl ⟨by (try simp only [h1, h2, h3, h4]); rfl, rfl⟩
  refine kX_tabO rfl (kp_out 4 (fun k hk => ?_) (by decide)) rfl ?_
  · rcases (show k = 0 ∨ k = 1 ∨ k = 2 ∨ k = 3 by omega) with rfl | rfl | rfl | rfl
    · exact e0
    · exact e1
    · exact e2
    · exact e3
  · repeat refine kX_one rfl ?_
    exact kX_ret (i := .ireturn) (len := 1) rfl (Or.inr rfl) rfl ⟨by simp only [kp_fd, e0, e1, e2, e3, if_false]; rfl, rfl⟩
theorem km_told (L : Nat) (xs : Nat → Int32) (d : Nat) (σ : kS) (w : Int32) (h1 : σ 232 9 = 0) (h2 : σ 232 13 = 0) (h3 : σ 232 27 = 0) (h4 : σ 232 30 = 0) (h5 : σ 232 26 = 0) (h6 : σ 232 52 = 0) : kXM kT L xs (d + 1) 224 [.ref 232, .int w] σ (fun r σ' => r = some (.int (kp_td w)) ∧ σ' = σ) := by
  unfold kXM
  repeat refine kX_one rfl ?_
  by_cases e0 : w = 0
  · subst e0
    repeat refine kX_one rfl ?_
    exact kX_ret (i := .ireturn) (len := 1) rfl (Or.inr rfl) rfl ⟨by (try simp only [h1, h2, h3, h4, h5, h6]); rfl, rfl⟩
  by_cases e1 : w = 1
  · subst e1
    repeat refine kX_one rfl ?_
    exact kX_ret (i := .ireturn) (len := 1) rfl (Or.inr rfl) rfl ⟨by (try simp only [h1, h2, h3, h4, h5, h6]); rfl, rfl⟩
  by_cases e2 : w = 2
  · subst e2
    repeat refine kX_one rfl ?_
    exact kX_ret (i := .ireturn) (len := 1) rfl (Or.inr rfl) rfl ⟨by (try simp only [h1, h2, h3, h4, h5, h6]); rfl, rfl⟩
  by_cases e3 : w = 3
  · subst e3
    repeat refine kX_one rfl ?_
    exact kX_ret (i := .ireturn) (len := 1) rfl (Or.inr rfl) rfl ⟨by (try simp only [h1, h2, h3, h4, h5, h6]); rfl, rfl⟩
  by_cases e4 : w = 4
  · subst e4
    repeat refine kX_one rfl ?_
    exact kX_ret (i := .ireturn) (len := 1) rfl (Or.inr rfl) rfl ⟨by (try simp only [h1, h2, h3, h4, h5, h6]); rfl, rfl⟩
  by_cases e5 : w = 5
  · subst e5
    repeat refine kX_one rfl ?_
    rw [h6]
    repeat refine kX_one rfl ?_
    exact kX_ret (i := .ireturn) (len := 1) rfl (Or.inr rfl) rfl ⟨by (try simp only [h1, h2, h3, h4, h5, h6]); rfl, rfl⟩
  refine kX_tabO rfl (kp_out 6 (fun k hk => ?_) (by decide)) rfl ?_
  · rcases (show k = 0 ∨ k = 1 ∨ k = 2 ∨ k = 3 ∨ k = 4 ∨ k = 5 by omega) with rfl | rfl | rfl | rfl | rfl | rfl
    · exact e0
    · exact e1
    · exact e2
    · exact e3
    · exact e4
    · exact e5
  · repeat refine kX_one rfl ?_
    exact kX_ret (i := .ireturn) (len := 1) rfl (Or.inr rfl) rfl ⟨by simp only [kp_td, e0, e1, e2, e3, e4, e5, if_false]; rfl, rfl⟩
