/-! p1: one call on fresh objects (wip/gen_p1.py) -/
def kyok (y : Nat) (as : List Value) : Bool := decide (y ≠ 0) && (decide (y < jm_n) && decide ((lg_sl as).length ≤ jm_maxL y))
theorem kyok_ok {y : Nat} {as : List Value} (h : kyok y as = true) : y ≠ 0 ∧ y < jm_n ∧ (lg_sl as).length ≤ jm_maxL y := by
  unfold kyok at h
  rw [Bool.and_eq_true, Bool.and_eq_true] at h
  exact ⟨of_decide_eq_true h.1, of_decide_eq_true h.2.1, of_decide_eq_true h.2.2⟩
theorem kG_cal {T : List jC} {L : Nat} {xs : Nat → Int32} {d mi pc : Nat} {lv : jL} {st : List Value} {σ : kS} {r : Option Value} {σ' : kS} {i : Instr} {len y : Nat} {as rest : List Value} {r1 : Option Value} {σ1 : kS} (hm : kM T L xs d y as σ r1 σ1) (hi : jm_ins mi pc = some (i, len)) (hl : jlen i = 0 ∨ len = jlen i) (he : jend mi st i = none) (hc : jcall (jm_own mi) st T i = some (y, as, rest)) (hy : kyok y as = true)
    (g : kG T L xs (d + 1) mi (pc + 3) lv (r1.toList ++ rest) σ1 r σ') : kG T L xs (d + 1) mi pc lv st σ r σ' := kG_call hi hl he hc (kyok_ok hy) hm g
theorem kp_lt {t : Int32} (h : jcmp .lt t 0 = false) : jcmp .ge t 0 = true := decide_eq_true (Int32.not_lt.mp (of_decide_eq_false h))
theorem kp_has (L : Nat) (xs : Nat → Int32) (d : Nat) (σ : kS) (t : Int32) (h1 : σ 1 11 = 0) : kM kT L xs (d + 1) 95 [.ref 1, .int t] σ (some (.int 0)) σ := by
  unfold kM
  repeat refine kG_one rfl ?_
  refine kG_if (fun q1 => ?_) (fun q1 => ?_)
  · repeat refine kG_one rfl ?_
    exact kG_ret (i := .ireturn) (len := 1) rfl (Or.inr rfl) rfl
  · repeat refine kG_one rfl ?_
    refine kG_if (fun q2 => ?_) (fun q2 => ?_)
    · repeat refine kG_one rfl ?_
      exact kG_ret (i := .ireturn) (len := 1) rfl (Or.inr rfl) rfl
    · rw [show σ 1 11 = 0 from h1, kp_lt q1] at q2
      cases q2
theorem kp_hasRole (L : Nat) (xs : Nat → Int32) (d : Nat) (σ : kS) (t : Int32) (h1 : σ 13 2 = 0) : kM kT L xs (d + 1) 3 [.ref 13, .int t] σ (some (.int 0)) σ := by
  unfold kM
  repeat refine kG_one rfl ?_
  refine kG_if (fun q1 => ?_) (fun q1 => ?_)
  · repeat refine kG_one rfl ?_
    exact kG_ret (i := .ireturn) (len := 1) rfl (Or.inr rfl) rfl
  · repeat refine kG_one rfl ?_
    refine kG_if (fun q2 => ?_) (fun q2 => ?_)
    · repeat refine kG_one rfl ?_
      exact kG_ret (i := .ireturn) (len := 1) rfl (Or.inr rfl) rfl
    · rw [show σ 13 2 = 0 from h1, kp_lt q1] at q2
      cases q2
theorem kp_hasSession (L : Nat) (xs : Nat → Int32) (d : Nat) (σ : kS) (t : Int32) (h1 : σ 13 6 = 0) : kM kT L xs (d + 1) 4 [.ref 13, .int t] σ (some (.int 0)) σ := by
  unfold kM
  repeat refine kG_one rfl ?_
  refine kG_if (fun q1 => ?_) (fun q1 => ?_)
  · repeat refine kG_one rfl ?_
    exact kG_ret (i := .ireturn) (len := 1) rfl (Or.inr rfl) rfl
  · repeat refine kG_one rfl ?_
    refine kG_if (fun q2 => ?_) (fun q2 => ?_)
    · repeat refine kG_one rfl ?_
      exact kG_ret (i := .ireturn) (len := 1) rfl (Or.inr rfl) rfl
    · rw [show σ 13 6 = 0 from h1, kp_lt q1] at q2
      cases q2
theorem kp_hasClaim (L : Nat) (xs : Nat → Int32) (d : Nat) (σ : kS) (t : Int32) (h1 : σ 13 8 = 0) : kM kT L xs (d + 1) 5 [.ref 13, .int t] σ (some (.int 0)) σ := by
  unfold kM
  repeat refine kG_one rfl ?_
  refine kG_if (fun q1 => ?_) (fun q1 => ?_)
  · repeat refine kG_one rfl ?_
    exact kG_ret (i := .ireturn) (len := 1) rfl (Or.inr rfl) rfl
  · repeat refine kG_one rfl ?_
    refine kG_if (fun q2 => ?_) (fun q2 => ?_)
    · repeat refine kG_one rfl ?_
      exact kG_ret (i := .ireturn) (len := 1) rfl (Or.inr rfl) rfl
    · rw [show σ 13 8 = 0 from h1, kp_lt q1] at q2
      cases q2
theorem kp_hasVariable (L : Nat) (xs : Nat → Int32) (d : Nat) (σ : kS) (t v : Int32) (h1 : σ 13 2 = 0) : kM kT L xs (d + 2) 6 [.ref 13, .int t, .int v] σ (some (.int 0)) σ := by
  unfold kM
  repeat refine kG_one rfl ?_
  refine kG_cal (kp_hasRole L xs d σ t h1) rfl (Or.inr rfl) rfl rfl rfl ?_
  repeat refine kG_one rfl ?_
  exact kG_ret (i := .ireturn) (len := 1) rfl (Or.inr rfl) rfl
theorem kp_term (L : Nat) (xs : Nat → Int32) (d : Nat) (σ : kS) (k x y : Int32) (h1 : σ 1 11 = 0) : kM kT L xs (d + 2) 111 [.ref 0, .int k, .int x, .int y] σ (some (.int (-1))) σ := by
  unfold kM
  repeat refine kG_one rfl ?_
  refine kG_cal (kp_has L xs d σ x h1) rfl (Or.inr rfl) rfl rfl rfl ?_
  repeat refine kG_one rfl ?_
  exact kG_ret (i := .ireturn) (len := 1) rfl (Or.inr rfl) rfl
theorem kp_of (L : Nat) (xs : Nat → Int32) (d : Nat) (σ : kS) (k x y : Int32) (h1 : σ 1 11 = 0) : kM kT L xs (d + 2) 112 [.ref 0, .int k, .int x, .int y] σ (some (.int (-1))) σ := by
  unfold kM
  repeat refine kG_one rfl ?_
  refine kG_cal (kp_has L xs d σ y h1) rfl (Or.inr rfl) rfl rfl rfl ?_
  repeat refine kG_one rfl ?_
  exact kG_ret (i := .ireturn) (len := 1) rfl (Or.inr rfl) rfl
theorem kp_about (L : Nat) (xs : Nat → Int32) (d : Nat) (σ : kS) (x y : Int32) (h1 : σ 1 11 = 0) : kM kT L xs (d + 2) 113 [.ref 0, .int x, .int y] σ (some (.int (-1))) σ := by
  unfold kM
  repeat refine kG_one rfl ?_
  refine kG_cal (kp_has L xs d σ x h1) rfl (Or.inr rfl) rfl rfl rfl ?_
  repeat refine kG_one rfl ?_
  exact kG_ret (i := .ireturn) (len := 1) rfl (Or.inr rfl) rfl
theorem kp_variable (L : Nat) (xs : Nat → Int32) (d : Nat) (σ : kS) (x y z : Int32) (h1 : σ 13 2 = 0) : kM kT L xs (d + 2) 115 [.ref 0, .int x, .int y, .int z] σ (some (.int (-1))) σ := by
  unfold kM
  repeat refine kG_one rfl ?_
  refine kG_cal (kp_hasRole L xs d σ x h1) rfl (Or.inr rfl) rfl rfl rfl ?_
  repeat refine kG_one rfl ?_
  exact kG_ret (i := .ireturn) (len := 1) rfl (Or.inr rfl) rfl
theorem kp_event (L : Nat) (xs : Nat → Int32) (d : Nat) (σ : kS) (x y z : Int32) (h1 : σ 13 2 = 0) : kM kT L xs (d + 2) 116 [.ref 0, .int x, .int y, .int z] σ (some (.int (-1))) σ := by
  unfold kM
  repeat refine kG_one rfl ?_
  refine kG_cal (kp_hasRole L xs d σ x h1) rfl (Or.inr rfl) rfl rfl rfl ?_
  repeat refine kG_one rfl ?_
  exact kG_ret (i := .ireturn) (len := 1) rfl (Or.inr rfl) rfl
theorem kp_know (L : Nat) (xs : Nat → Int32) (d : Nat) (σ : kS) (x : Int32) (h1 : σ 1 11 = 0) : kM kT L xs (d + 2) 117 [.ref 0, .int x] σ (some (.int (-1))) σ := by
  unfold kM
  repeat refine kG_one rfl ?_
  refine kG_cal (kp_has L xs d σ x h1) rfl (Or.inr rfl) rfl rfl rfl ?_
  repeat refine kG_one rfl ?_
  exact kG_ret (i := .ireturn) (len := 1) rfl (Or.inr rfl) rfl
theorem kp_session (L : Nat) (xs : Nat → Int32) (d : Nat) (σ : kS) (x y z w : Int32) (h1 : σ 13 2 = 0) : kM kT L xs (d + 2) 118 [.ref 0, .int x, .int y, .int z, .int w] σ (some (.int (-1))) σ := by
  unfold kM
  repeat refine kG_one rfl ?_
  refine kG_cal (kp_hasRole L xs d σ x h1) rfl (Or.inr rfl) rfl rfl rfl ?_
  repeat refine kG_one rfl ?_
  exact kG_ret (i := .ireturn) (len := 1) rfl (Or.inr rfl) rfl
theorem kp_secret (L : Nat) (xs : Nat → Int32) (d : Nat) (σ : kS) (x y : Int32) (h1 : σ 13 2 = 0) : kM kT L xs (d + 3) 119 [.ref 0, .int x, .int y] σ (some (.int (-1))) σ := by
  unfold kM
  repeat refine kG_one rfl ?_
  refine kG_cal (kp_hasVariable L xs d σ x y h1) rfl (Or.inr rfl) rfl rfl rfl ?_
  repeat refine kG_one rfl ?_
  exact kG_ret (i := .ireturn) (len := 1) rfl (Or.inr rfl) rfl
theorem kp_agree (L : Nat) (xs : Nat → Int32) (d : Nat) (σ : kS) (x y z : Int32) (h1 : σ 13 2 = 0) : kM kT L xs (d + 2) 120 [.ref 0, .int x, .int y, .int z] σ (some (.int (-1))) σ := by
  unfold kM
  repeat refine kG_one rfl ?_
  refine kG_cal (kp_hasRole L xs d σ x h1) rfl (Or.inr rfl) rfl rfl rfl ?_
  repeat refine kG_one rfl ?_
  exact kG_ret (i := .ireturn) (len := 1) rfl (Or.inr rfl) rfl
theorem kp_join (L : Nat) (xs : Nat → Int32) (d : Nat) (σ : kS) (x y z : Int32) (h1 : σ 13 8 = 0) : kM kT L xs (d + 2) 121 [.ref 0, .int x, .int y, .int z] σ (some (.int (-1))) σ := by
  unfold kM
  repeat refine kG_one rfl ?_
  refine kG_cal (kp_hasClaim L xs d σ x h1) rfl (Or.inr rfl) rfl rfl rfl ?_
  repeat refine kG_one rfl ?_
  exact kG_ret (i := .ireturn) (len := 1) rfl (Or.inr rfl) rfl
theorem kp_send (L : Nat) (xs : Nat → Int32) (d : Nat) (σ : kS) (x : Int32) (h1 : σ 13 6 = 0) : kM kT L xs (d + 2) 124 [.ref 0, .int x] σ (some (.int (-1))) σ := by
  unfold kM
  repeat refine kG_one rfl ?_
  refine kG_cal (kp_hasSession L xs d σ x h1) rfl (Or.inr rfl) rfl rfl rfl ?_
  repeat refine kG_one rfl ?_
  exact kG_ret (i := .ireturn) (len := 1) rfl (Or.inr rfl) rfl
theorem kp_receive (L : Nat) (xs : Nat → Int32) (d : Nat) (σ : kS) (x y : Int32) (h1 : σ 13 6 = 0) : kM kT L xs (d + 2) 125 [.ref 0, .int x, .int y] σ (some (.int (-1))) σ := by
  unfold kM
  repeat refine kG_one rfl ?_
  refine kG_cal (kp_hasSession L xs d σ x h1) rfl (Or.inr rfl) rfl rfl rfl ?_
  repeat refine kG_one rfl ?_
  exact kG_ret (i := .ireturn) (len := 1) rfl (Or.inr rfl) rfl
theorem kp_makes (L : Nat) (xs : Nat → Int32) (d : Nat) (σ : kS) (x : Int32) (h1 : σ 1 11 = 0) : kM kT L xs (d + 2) 126 [.ref 0, .int x] σ (some (.int (-1))) σ := by
  unfold kM
  repeat refine kG_one rfl ?_
  refine kG_cal (kp_has L xs d σ x h1) rfl (Or.inr rfl) rfl rfl rfl ?_
  repeat refine kG_one rfl ?_
  exact kG_ret (i := .ireturn) (len := 1) rfl (Or.inr rfl) rfl
theorem kp_stands (L : Nat) (xs : Nat → Int32) (d : Nat) (σ : kS) (x y : Int32) (h1 : σ 13 6 = 0) : kM kT L xs (d + 2) 128 [.ref 0, .int x, .int y] σ (some (.int (-1))) σ := by
  unfold kM
  repeat refine kG_one rfl ?_
  refine kG_cal (kp_hasSession L xs d σ x h1) rfl (Or.inr rfl) rfl rfl rfl ?_
  repeat refine kG_one rfl ?_
  exact kG_ret (i := .ireturn) (len := 1) rfl (Or.inr rfl) rfl
theorem kp_done (L : Nat) (xs : Nat → Int32) (d : Nat) (σ : kS) (x : Int32) (h1 : σ 13 6 = 0) : kM kT L xs (d + 2) 129 [.ref 0, .int x] σ (some (.int (-1))) σ := by
  unfold kM
  repeat refine kG_one rfl ?_
  refine kG_cal (kp_hasSession L xs d σ x h1) rfl (Or.inr rfl) rfl rfl rfl ?_
  repeat refine kG_one rfl ?_
  exact kG_ret (i := .ireturn) (len := 1) rfl (Or.inr rfl) rfl
theorem kp_broken (L : Nat) (xs : Nat → Int32) (d : Nat) (σ : kS) (x : Int32) (h1 : σ 13 8 = 0) : kM kT L xs (d + 2) 130 [.ref 0, .int x] σ (some (.int (-1))) σ := by
  unfold kM
  repeat refine kG_one rfl ?_
  refine kG_cal (kp_hasClaim L xs d σ x h1) rfl (Or.inr rfl) rfl rfl rfl ?_
  repeat refine kG_one rfl ?_
  exact kG_ret (i := .ireturn) (len := 1) rfl (Or.inr rfl) rfl
theorem kp_ofRole (L : Nat) (xs : Nat → Int32) (d : Nat) (σ : kS) (x y : Int32) (h1 : σ 13 2 = 0) : kM kT L xs (d + 2) 137 [.ref 0, .int x, .int y] σ (some (.int (-1))) σ := by
  unfold kM
  repeat refine kG_one rfl ?_
  refine kG_cal (kp_hasRole L xs d σ x h1) rfl (Or.inr rfl) rfl rfl rfl ?_
  repeat refine kG_one rfl ?_
  exact kG_ret (i := .ireturn) (len := 1) rfl (Or.inr rfl) rfl
