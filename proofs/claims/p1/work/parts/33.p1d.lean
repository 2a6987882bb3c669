/-! p1: the law on one call (wip/gen_p1d.py) -/
theorem kkeep_eq {σ σ1 : kS} (h : kKeep (kz σ) σ1) : va_up σ1 232 (kz σ 232) = σ1 := by
  rw [← h 232 (Nat.le_refl _)]
  exact kup_self σ1 232
theorem kq_atomE (L : Nat) (xs : Nat → Int32) (σ : kS) (w : Int32) (h : w = 1 ∨ w = 2) : kXM kT L xs 200 110 [.ref 0, .int w] (kz σ) (fun r σ' => r = some (.int 0) ∧ kKeep (kz σ) σ') := by
  rcases h with rfl | rfl
  · exact kq_atom1 L xs σ
  · exact kq_atom2 L xs σ
theorem kr_atomE (L : Nat) (xs : Nat → Int32) (σ σ1 : kS) (w : Int32) (h : w = 1 ∨ w = 2) : kXM kT L xs 200 156 [.ref 232, .int w] (va_up σ1 232 (kz σ 232)) (fun r _ => r = some (.int 0)) := by
  rcases h with rfl | rfl
  · exact kr_atom1 L xs σ σ1
  · exact kr_atom2 L xs σ σ1
set_option maxRecDepth 100000 in
theorem kl_end (xs : Nat → Int32) (σ : kS) : kX kT 5 xs 201 0 1040 [(3, .int 0), (2, .ref 232), (1, .ref 0), (0, .retAddr 0)] [] σ (fun r _ => r = some (.int 1)) := by
  repeat refine kX_one rfl ?_
  exact kX_ret rfl (Or.inr rfl) rfl rfl
set_option maxRecDepth 100000 in
set_option maxHeartbeats 4000000 in
theorem kl_0 (xs : Nat → Int32) (σ : kS) : kX kT 5 xs 201 0 168 [(3, .int 0), (2, .ref 232), (1, .ref 0), (0, .retAddr 0)] [] (kz σ) (fun r _ => r = some (.int 1)) := by
  repeat refine kX_one rfl ?_
  refine kX_if (fun q0 => ?_) (fun q0 => ?_)
  · repeat refine kX_one rfl ?_
    refine kX_cal (kq_agent0 5 xs σ) rfl (Or.inr rfl) rfl rfl rfl (fun r1 σ1 q1 => ?_)
    obtain ⟨rfl, hk⟩ := q1
    rw [← kkeep_eq hk]
    repeat refine kX_one rfl ?_
    refine kX_ifT q0 ?_
    repeat refine kX_one rfl ?_
    refine kX_cal (kr_agent0 5 xs σ σ1) rfl (Or.inr rfl) rfl rfl rfl (fun r1 σ1 q1 => ?_)
    obtain rfl := q1
    refine kX_one rfl ?_
    exact kX_ifT (jeq_rf _) (kl_end xs _)
  · repeat refine kX_one rfl ?_
    refine kX_cal (kq_agent1 5 xs σ) rfl (Or.inr rfl) rfl rfl rfl (fun r1 σ1 q1 => ?_)
    obtain ⟨rfl, hk⟩ := q1
    rw [← kkeep_eq hk]
    repeat refine kX_one rfl ?_
    refine kX_ifF q0 ?_
    repeat refine kX_one rfl ?_
    refine kX_cal (kr_agent1 5 xs σ σ1) rfl (Or.inr rfl) rfl rfl rfl (fun r1 σ1 q1 => ?_)
    obtain rfl := q1
    refine kX_one rfl ?_
    exact kX_ifT (jeq_rf _) (kl_end xs _)
set_option maxRecDepth 100000 in
set_option maxHeartbeats 4000000 in
theorem kl_1 (xs : Nat → Int32) (σ : kS) : kX kT 5 xs 201 0 207 [(3, .int 0), (2, .ref 232), (1, .ref 0), (0, .retAddr 0)] [] (kz σ) (fun r _ => r = some (.int 1)) := by
  by_cases h : xs 1 = 1 ∨ xs 1 = 2
  · repeat refine kX_one rfl ?_
    repeat refine kX_one rfl ?_
    refine kX_cal (kq_atomE 5 xs σ (xs 1) h) rfl (Or.inr rfl) rfl rfl rfl (fun r1 σ1 q1 => ?_)
    obtain ⟨rfl, hk⟩ := q1
    rw [← kkeep_eq hk]
    repeat refine kX_one rfl ?_
    refine kX_cal (kr_atomE 5 xs σ σ1 (xs 1) h) rfl (Or.inr rfl) rfl rfl rfl (fun r1 σ1 q1 => ?_)
    obtain rfl := q1
    refine kX_one rfl ?_
    exact kX_ifT (jeq_rf _) (kl_end xs _)
  · have h1 : xs 1 ≠ 1 := fun e => h (Or.inl e)
    have h2 : xs 1 ≠ 2 := fun e => h (Or.inr e)
    repeat refine kX_one rfl ?_
    refine kX_cal (kq_atomN 5 xs 199 (kz σ) (xs 1) h1 h2) rfl (Or.inr rfl) rfl rfl rfl (fun r1 σ1 q1 => ?_)
    obtain ⟨rfl, rfl⟩ := q1
    repeat refine kX_one rfl ?_
    refine kX_cal (kr_atomN 5 xs 198 (kz σ) (xs 1) h1 h2) rfl (Or.inr rfl) rfl rfl rfl (fun r1 σ1 q1 => ?_)
    obtain ⟨rfl, rfl⟩ := q1
    refine kX_one rfl ?_
    exact kX_ifT (jeq_rf _) (kl_end xs _)
set_option maxRecDepth 100000 in
set_option maxHeartbeats 4000000 in
theorem kl_2 (xs : Nat → Int32) (σ : kS) : kX kT 5 xs 201 0 230 [(3, .int 0), (2, .ref 232), (1, .ref 0), (0, .retAddr 0)] [] (kz σ) (fun r _ => r = some (.int 1)) := by
  repeat refine kX_one rfl ?_
  refine kX_cal (kp_term 5 xs 198 (kz σ) (xs 1) (xs 2) (xs 3) rfl) rfl (Or.inr rfl) rfl rfl rfl (fun r1 σ1 q1 => ?_)
  obtain ⟨rfl, rfl⟩ := q1
  repeat refine kX_one rfl ?_
  refine kX_cal (km_term 5 xs 197 (kz σ) (xs 1) (xs 2) (xs 3) rfl) rfl (Or.inr rfl) rfl rfl rfl (fun r1 σ1 q1 => ?_)
  obtain ⟨rfl, rfl⟩ := q1
  refine kX_one rfl ?_
  exact kX_ifT (jeq_rf _) (kl_end xs _)
set_option maxRecDepth 100000 in
set_option maxHeartbeats 4000000 in
theorem kl_3 (xs : Nat → Int32) (σ : kS) : kX kT 5 xs 201 0 273 [(3, .int 0), (2, .ref 232), (1, .ref 0), (0, .retAddr 0)] [] (kz σ) (fun r _ => r = some (.int 1)) := by
  repeat refine kX_one rfl ?_
  refine kX_cal (kp_of 5 xs 198 (kz σ) (xs 1) (xs 2) (xs 3) rfl) rfl (Or.inr rfl) rfl rfl rfl (fun r1 σ1 q1 => ?_)
  obtain ⟨rfl, rfl⟩ := q1
  repeat refine kX_one rfl ?_
  refine kX_cal (km_of 5 xs 197 (kz σ) (xs 1) (xs 2) (xs 3) rfl) rfl (Or.inr rfl) rfl rfl rfl (fun r1 σ1 q1 => ?_)
  obtain ⟨rfl, rfl⟩ := q1
  refine kX_one rfl ?_
  exact kX_ifT (jeq_rf _) (kl_end xs _)
set_option maxRecDepth 100000 in
set_option maxHeartbeats 4000000 in
theorem kl_4 (xs : Nat → Int32) (σ : kS) : kX kT 5 xs 201 0 316 [(3, .int 0), (2, .ref 232), (1, .ref 0), (0, .retAddr 0)] [] (kz σ) (fun r _ => r = some (.int 1)) := by
  repeat refine kX_one rfl ?_
  refine kX_cal (kp_about 5 xs 198 (kz σ) (xs 1) (xs 2) rfl) rfl (Or.inr rfl) rfl rfl rfl (fun r1 σ1 q1 => ?_)
  obtain ⟨rfl, rfl⟩ := q1
  repeat refine kX_one rfl ?_
  refine kX_cal (km_about 5 xs 197 (kz σ) (xs 1) (xs 2) rfl) rfl (Or.inr rfl) rfl rfl rfl (fun r1 σ1 q1 => ?_)
  obtain ⟨rfl, rfl⟩ := q1
  refine kX_one rfl ?_
  exact kX_ifT (jeq_rf _) (kl_end xs _)
set_option maxRecDepth 100000 in
set_option maxHeartbeats 4000000 in
theorem kl_5 (xs : Nat → Int32) (σ : kS) : kX kT 5 xs 201 0 349 [(3, .int 0), (2, .ref 232), (1, .ref 0), (0, .retAddr 0)] [] (kz σ) (fun r _ => r = some (.int 1)) := by
  repeat refine kX_one rfl ?_
  refine kX_cal (kq_role 5 xs σ) rfl (Or.inr rfl) rfl rfl rfl (fun r1 σ1 q1 => ?_)
  obtain ⟨rfl, hk⟩ := q1
  rw [← kkeep_eq hk]
  repeat refine kX_one rfl ?_
  refine kX_cal (kr_role 5 xs σ σ1) rfl (Or.inr rfl) rfl rfl rfl (fun r1 σ1 q1 => ?_)
  obtain rfl := q1
  refine kX_one rfl ?_
  exact kX_ifT (jeq_rf _) (kl_end xs _)
set_option maxRecDepth 100000 in
set_option maxHeartbeats 4000000 in
theorem kl_6 (xs : Nat → Int32) (σ : kS) : kX kT 5 xs 201 0 362 [(3, .int 0), (2, .ref 232), (1, .ref 0), (0, .retAddr 0)] [] (kz σ) (fun r _ => r = some (.int 1)) := by
  repeat refine kX_one rfl ?_
  refine kX_cal (kp_variable 5 xs 198 (kz σ) (xs 1) (xs 2) (xs 3) rfl) rfl (Or.inr rfl) rfl rfl rfl (fun r1 σ1 q1 => ?_)
  obtain ⟨rfl, rfl⟩ := q1
  repeat refine kX_one rfl ?_
  refine kX_cal (km_variable 5 xs 197 (kz σ) (xs 1) (xs 2) (xs 3) rfl) rfl (Or.inr rfl) rfl rfl rfl (fun r1 σ1 q1 => ?_)
  obtain ⟨rfl, rfl⟩ := q1
  refine kX_one rfl ?_
  exact kX_ifT (jeq_rf _) (kl_end xs _)
set_option maxRecDepth 100000 in
set_option maxHeartbeats 4000000 in
theorem kl_7 (xs : Nat → Int32) (σ : kS) : kX kT 5 xs 201 0 405 [(3, .int 0), (2, .ref 232), (1, .ref 0), (0, .retAddr 0)] [] (kz σ) (fun r _ => r = some (.int 1)) := by
  repeat refine kX_one rfl ?_
  refine kX_if (fun q0 => ?_) (fun q0 => ?_)
  · repeat refine kX_one rfl ?_
    refine kX_cal (kp_event 5 xs 198 (kz σ) (xs 1) 0 (xs 3) rfl) rfl (Or.inr rfl) rfl rfl rfl (fun r1 σ1 q1 => ?_)
    obtain ⟨rfl, rfl⟩ := q1
    repeat refine kX_one rfl ?_
    refine kX_ifT q0 ?_
    repeat refine kX_one rfl ?_
    refine kX_cal (km_event 5 xs 197 (kz σ) (xs 1) 0 (xs 3) rfl) rfl (Or.inr rfl) rfl rfl rfl (fun r1 σ1 q1 => ?_)
    obtain ⟨rfl, rfl⟩ := q1
    refine kX_one rfl ?_
    exact kX_ifT (jeq_rf _) (kl_end xs _)
  · repeat refine kX_one rfl ?_
    refine kX_cal (kp_event 5 xs 198 (kz σ) (xs 1) 1 (xs 3) rfl) rfl (Or.inr rfl) rfl rfl rfl (fun r1 σ1 q1 => ?_)
    obtain ⟨rfl, rfl⟩ := q1
    repeat refine kX_one rfl ?_
    refine kX_ifF q0 ?_
    repeat refine kX_one rfl ?_
    refine kX_cal (km_event 5 xs 197 (kz σ) (xs 1) 1 (xs 3) rfl) rfl (Or.inr rfl) rfl rfl rfl (fun r1 σ1 q1 => ?_)
    obtain ⟨rfl, rfl⟩ := q1
    refine kX_one rfl ?_
    exact kX_ifT (jeq_rf _) (kl_end xs _)
set_option maxRecDepth 100000 in
set_option maxHeartbeats 4000000 in
theorem kl_8 (xs : Nat → Int32) (σ : kS) : kX kT 5 xs 201 0 464 [(3, .int 0), (2, .ref 232), (1, .ref 0), (0, .retAddr 0)] [] (kz σ) (fun r _ => r = some (.int 1)) := by
  repeat refine kX_one rfl ?_
  refine kX_cal (kp_know 5 xs 198 (kz σ) (xs 1) rfl) rfl (Or.inr rfl) rfl rfl rfl (fun r1 σ1 q1 => ?_)
  obtain ⟨rfl, rfl⟩ := q1
  repeat refine kX_one rfl ?_
  refine kX_cal (km_know 5 xs 197 (kz σ) (xs 1) rfl) rfl (Or.inr rfl) rfl rfl rfl (fun r1 σ1 q1 => ?_)
  obtain ⟨rfl, rfl⟩ := q1
  refine kX_one rfl ?_
  exact kX_ifT (jeq_rf _) (kl_end xs _)
set_option maxRecDepth 100000 in
set_option maxHeartbeats 4000000 in
theorem kl_9 (xs : Nat → Int32) (σ : kS) : kX kT 5 xs 201 0 487 [(3, .int 0), (2, .ref 232), (1, .ref 0), (0, .retAddr 0)] [] (kz σ) (fun r _ => r = some (.int 1)) := by
  repeat refine kX_one rfl ?_
  refine kX_cal (kp_session 5 xs 198 (kz σ) (xs 1) (xs 2) (xs 3) (xs 4) rfl) rfl (Or.inr rfl) rfl rfl rfl (fun r1 σ1 q1 => ?_)
  obtain ⟨rfl, rfl⟩ := q1
  repeat refine kX_one rfl ?_
  refine kX_cal (km_session 5 xs 197 (kz σ) (xs 1) (xs 2) (xs 3) (xs 4) rfl) rfl (Or.inr rfl) rfl rfl rfl (fun r1 σ1 q1 => ?_)
  obtain ⟨rfl, rfl⟩ := q1
  refine kX_one rfl ?_
  exact kX_ifT (jeq_rf _) (kl_end xs _)
set_option maxRecDepth 100000 in
set_option maxHeartbeats 4000000 in
theorem kl_10 (xs : Nat → Int32) (σ : kS) : kX kT 5 xs 201 0 540 [(3, .int 0), (2, .ref 232), (1, .ref 0), (0, .retAddr 0)] [] (kz σ) (fun r _ => r = some (.int 1)) := by
  repeat refine kX_one rfl ?_
  refine kX_cal (kp_secret 5 xs 197 (kz σ) (xs 1) (xs 2) rfl) rfl (Or.inr rfl) rfl rfl rfl (fun r1 σ1 q1 => ?_)
  obtain ⟨rfl, rfl⟩ := q1
  repeat refine kX_one rfl ?_
  refine kX_cal (km_secret 5 xs 197 (kz σ) (xs 1) (xs 2) rfl) rfl (Or.inr rfl) rfl rfl rfl (fun r1 σ1 q1 => ?_)
  obtain ⟨rfl, rfl⟩ := q1
  refine kX_one rfl ?_
  exact kX_ifT (jeq_rf _) (kl_end xs _)
set_option maxRecDepth 100000 in
set_option maxHeartbeats 4000000 in
theorem kl_11 (xs : Nat → Int32) (σ : kS) : kX kT 5 xs 201 0 573 [(3, .int 0), (2, .ref 232), (1, .ref 0), (0, .retAddr 0)] [] (kz σ) (fun r _ => r = some (.int 1)) := by
  repeat refine kX_one rfl ?_
  refine kX_cal (kp_agree 5 xs 198 (kz σ) (xs 1) (xs 2) (xs 3) rfl) rfl (Or.inr rfl) rfl rfl rfl (fun r1 σ1 q1 => ?_)
  obtain ⟨rfl, rfl⟩ := q1
  repeat refine kX_one rfl ?_
  refine kX_cal (km_agree 5 xs 197 (kz σ) (xs 1) (xs 2) (xs 3) rfl) rfl (Or.inr rfl) rfl rfl rfl (fun r1 σ1 q1 => ?_)
  obtain ⟨rfl, rfl⟩ := q1
  refine kX_one rfl ?_
  exact kX_ifT (jeq_rf _) (kl_end xs _)
set_option maxRecDepth 100000 in
set_option maxHeartbeats 4000000 in
theorem kl_12 (xs : Nat → Int32) (σ : kS) : kX kT 5 xs 201 0 616 [(3, .int 0), (2, .ref 232), (1, .ref 0), (0, .retAddr 0)] [] (kz σ) (fun r _ => r = some (.int 1)) := by
  repeat refine kX_one rfl ?_
  refine kX_cal (kp_join 5 xs 198 (kz σ) (xs 1) (xs 2) (xs 3) rfl) rfl (Or.inr rfl) rfl rfl rfl (fun r1 σ1 q1 => ?_)
  obtain ⟨rfl, rfl⟩ := q1
  repeat refine kX_one rfl ?_
  refine kX_cal (km_join 5 xs 197 (kz σ) (xs 1) (xs 2) (xs 3) rfl) rfl (Or.inr rfl) rfl rfl rfl (fun r1 σ1 q1 => ?_)
  obtain ⟨rfl, rfl⟩ := q1
  refine kX_one rfl ?_
  exact kX_ifT (jeq_rf _) (kl_end xs _)
set_option maxRecDepth 100000 in
set_option maxHeartbeats 4000000 in
theorem kl_13 (xs : Nat → Int32) (σ : kS) : kX kT 5 xs 201 0 659 [(3, .int 0), (2, .ref 232), (1, .ref 0), (0, .retAddr 0)] [] (kz σ) (fun r _ => r = some (.int 1)) := by
  repeat refine kX_one rfl ?_
  refine kX_cal (kq_begin 5 xs σ) rfl (Or.inr rfl) rfl rfl rfl (fun r1 σ1 q1 => ?_)
  obtain ⟨rfl, hk⟩ := q1
  rw [← kkeep_eq hk]
  repeat refine kX_one rfl ?_
  refine kX_cal (kr_begin 5 xs σ σ1) rfl (Or.inr rfl) rfl rfl rfl (fun r1 σ1 q1 => ?_)
  obtain rfl := q1
  refine kX_one rfl ?_
  exact kX_ifT (jeq_rf _) (kl_end xs _)
set_option maxRecDepth 100000 in
set_option maxHeartbeats 4000000 in
theorem kl_14 (xs : Nat → Int32) (σ : kS) : kX kT 5 xs 201 0 672 [(3, .int 0), (2, .ref 232), (1, .ref 0), (0, .retAddr 0)] [] (kz σ) (fun r _ => r = some (.int 1)) := by
  repeat refine kX_one rfl ?_
  refine kX_cal (kp_end 5 xs 199 (kz σ)  rfl) rfl (Or.inr rfl) rfl rfl rfl (fun r1 σ1 q1 => ?_)
  obtain ⟨rfl, rfl⟩ := q1
  repeat refine kX_one rfl ?_
  refine kX_cal (km_end 5 xs 199 (kz σ)  rfl) rfl (Or.inr rfl) rfl rfl rfl (fun r1 σ1 q1 => ?_)
  obtain ⟨rfl, rfl⟩ := q1
  refine kX_one rfl ?_
  exact kX_ifT (jeq_rf _) (kl_end xs _)
set_option maxRecDepth 100000 in
set_option maxHeartbeats 4000000 in
theorem kl_15 (xs : Nat → Int32) (σ : kS) : kX kT 5 xs 201 0 685 [(3, .int 0), (2, .ref 232), (1, .ref 0), (0, .retAddr 0)] [] (kz σ) (fun r _ => r = some (.int 1)) := by
  repeat refine kX_one rfl ?_
  refine kX_cal (kp_send 5 xs 198 (kz σ) (xs 1) rfl) rfl (Or.inr rfl) rfl rfl rfl (fun r1 σ1 q1 => ?_)
  obtain ⟨rfl, rfl⟩ := q1
  repeat refine kX_one rfl ?_
  refine kX_cal (km_send 5 xs 197 (kz σ) (xs 1) rfl) rfl (Or.inr rfl) rfl rfl rfl (fun r1 σ1 q1 => ?_)
  obtain ⟨rfl, rfl⟩ := q1
  refine kX_one rfl ?_
  exact kX_ifT (jeq_rf _) (kl_end xs _)
set_option maxRecDepth 100000 in
set_option maxHeartbeats 4000000 in
theorem kl_16 (xs : Nat → Int32) (σ : kS) : kX kT 5 xs 201 0 708 [(3, .int 0), (2, .ref 232), (1, .ref 0), (0, .retAddr 0)] [] (kz σ) (fun r _ => r = some (.int 1)) := by
  repeat refine kX_one rfl ?_
  refine kX_cal (kp_receive 5 xs 198 (kz σ) (xs 1) (xs 2) rfl) rfl (Or.inr rfl) rfl rfl rfl (fun r1 σ1 q1 => ?_)
  obtain ⟨rfl, rfl⟩ := q1
  repeat refine kX_one rfl ?_
  refine kX_cal (km_receive 5 xs 197 (kz σ) (xs 1) (xs 2) rfl) rfl (Or.inr rfl) rfl rfl rfl (fun r1 σ1 q1 => ?_)
  obtain ⟨rfl, rfl⟩ := q1
  refine kX_one rfl ?_
  exact kX_ifT (jeq_rf _) (kl_end xs _)
set_option maxRecDepth 100000 in
set_option maxHeartbeats 4000000 in
theorem kl_17 (xs : Nat → Int32) (σ : kS) : kX kT 5 xs 201 0 741 [(3, .int 0), (2, .ref 232), (1, .ref 0), (0, .retAddr 0)] [] (kz σ) (fun r _ => r = some (.int 1)) := by
  repeat refine kX_one rfl ?_
  refine kX_cal (kp_makes 5 xs 198 (kz σ) (xs 1) rfl) rfl (Or.inr rfl) rfl rfl rfl (fun r1 σ1 q1 => ?_)
  obtain ⟨rfl, rfl⟩ := q1
  repeat refine kX_one rfl ?_
  refine kX_cal (km_makes 5 xs 197 (kz σ) (xs 1) rfl) rfl (Or.inr rfl) rfl rfl rfl (fun r1 σ1 q1 => ?_)
  obtain ⟨rfl, rfl⟩ := q1
  refine kX_one rfl ?_
  exact kX_ifT (jeq_rf _) (kl_end xs _)
set_option maxRecDepth 100000 in
set_option maxHeartbeats 4000000 in
theorem kl_18 (xs : Nat → Int32) (σ : kS) : kX kT 5 xs 201 0 764 [(3, .int 0), (2, .ref 232), (1, .ref 0), (0, .retAddr 0)] [] (kz σ) (fun r _ => r = some (.int 1)) := by
  repeat refine kX_one rfl ?_
  refine kX_cal (kp_row 5 xs 199 (kz σ) (xs 1) (xs 2) rfl) rfl (Or.inr rfl) rfl rfl rfl (fun r1 σ1 q1 => ?_)
  obtain ⟨rfl, rfl⟩ := q1
  repeat refine kX_one rfl ?_
  refine kX_cal (km_row 5 xs 198 (kz σ) (xs 1) (xs 2) rfl) rfl (Or.inr rfl) rfl rfl rfl (fun r1 σ1 q1 => ?_)
  obtain ⟨rfl, rfl⟩ := q1
  refine kX_one rfl ?_
  exact kX_ifT (jeq_rf _) (kl_end xs _)
set_option maxRecDepth 100000 in
set_option maxHeartbeats 4000000 in
theorem kl_19 (xs : Nat → Int32) (σ : kS) : kX kT 5 xs 201 0 797 [(3, .int 0), (2, .ref 232), (1, .ref 0), (0, .retAddr 0)] [] (kz σ) (fun r _ => r = some (.int 1)) := by
  repeat refine kX_one rfl ?_
  refine kX_cal (kp_stands 5 xs 198 (kz σ) (xs 1) (xs 2) rfl) rfl (Or.inr rfl) rfl rfl rfl (fun r1 σ1 q1 => ?_)
  obtain ⟨rfl, rfl⟩ := q1
  repeat refine kX_one rfl ?_
  refine kX_cal (km_stands 5 xs 197 (kz σ) (xs 1) (xs 2) rfl) rfl (Or.inr rfl) rfl rfl rfl (fun r1 σ1 q1 => ?_)
  obtain ⟨rfl, rfl⟩ := q1
  refine kX_one rfl ?_
  exact kX_ifT (jeq_rf _) (kl_end xs _)
set_option maxRecDepth 100000 in
set_option maxHeartbeats 4000000 in
theorem kl_20 (xs : Nat → Int32) (σ : kS) : kX kT 5 xs 201 0 830 [(3, .int 0), (2, .ref 232), (1, .ref 0), (0, .retAddr 0)] [] (kz σ) (fun r _ => r = some (.int 1)) := by
  repeat refine kX_one rfl ?_
  refine kX_cal (kp_done 5 xs 198 (kz σ) (xs 1) rfl) rfl (Or.inr rfl) rfl rfl rfl (fun r1 σ1 q1 => ?_)
  obtain ⟨rfl, rfl⟩ := q1
  repeat refine kX_one rfl ?_
  refine kX_cal (km_done 5 xs 197 (kz σ) (xs 1) rfl) rfl (Or.inr rfl) rfl rfl rfl (fun r1 σ1 q1 => ?_)
  obtain ⟨rfl, rfl⟩ := q1
  refine kX_one rfl ?_
  exact kX_ifT (jeq_rf _) (kl_end xs _)
set_option maxRecDepth 100000 in
set_option maxHeartbeats 4000000 in
theorem kl_21 (xs : Nat → Int32) (σ : kS) : kX kT 5 xs 201 0 853 [(3, .int 0), (2, .ref 232), (1, .ref 0), (0, .retAddr 0)] [] (kz σ) (fun r _ => r = some (.int 1)) := by
  repeat refine kX_one rfl ?_
  refine kX_cal (kp_broken 5 xs 198 (kz σ) (xs 1) rfl) rfl (Or.inr rfl) rfl rfl rfl (fun r1 σ1 q1 => ?_)
  obtain ⟨rfl, rfl⟩ := q1
  repeat refine kX_one rfl ?_
  refine kX_cal (km_broken 5 xs 197 (kz σ) (xs 1) rfl) rfl (Or.inr rfl) rfl rfl rfl (fun r1 σ1 q1 => ?_)
  obtain ⟨rfl, rfl⟩ := q1
  refine kX_one rfl ?_
  exact kX_ifT (jeq_rf _) (kl_end xs _)
set_option maxRecDepth 100000 in
set_option maxHeartbeats 4000000 in
theorem kl_22 (xs : Nat → Int32) (σ : kS) : kX kT 5 xs 201 0 876 [(3, .int 0), (2, .ref 232), (1, .ref 0), (0, .retAddr 0)] [] (kz σ) (fun r _ => r = some (.int 1)) := by
  repeat refine kX_one rfl ?_
  refine kX_cal (kp_undo 5 xs 199 (kz σ)  rfl) rfl (Or.inr rfl) rfl rfl rfl (fun r1 σ1 q1 => ?_)
  obtain ⟨rfl, rfl⟩ := q1
  repeat refine kX_one rfl ?_
  refine kX_cal (km_undo 5 xs 199 (kz σ)  rfl) rfl (Or.inr rfl) rfl rfl rfl (fun r1 σ1 q1 => ?_)
  obtain ⟨rfl, rfl⟩ := q1
  refine kX_one rfl ?_
  exact kX_ifT (jeq_rf _) (kl_end xs _)
set_option maxRecDepth 100000 in
set_option maxHeartbeats 4000000 in
theorem kl_23 (xs : Nat → Int32) (σ : kS) : kX kT 5 xs 201 0 889 [(3, .int 0), (2, .ref 232), (1, .ref 0), (0, .retAddr 0)] [] (kz σ) (fun r _ => r = some (.int 1)) := by
  repeat refine kX_one rfl ?_
  refine kX_cal (kq_search 5 xs σ) rfl (Or.inr rfl) rfl rfl rfl (fun r1 σ1 q1 => ?_)
  obtain ⟨rfl, hk⟩ := q1
  rw [← kkeep_eq hk]
  repeat refine kX_one rfl ?_
  refine kX_cal (kr_search 5 xs σ σ1) rfl (Or.inr rfl) rfl rfl rfl (fun r1 σ1 q1 => ?_)
  obtain rfl := q1
  refine kX_one rfl ?_
  exact kX_ifT (jeq_rf _) (kl_end xs _)
set_option maxRecDepth 100000 in
set_option maxHeartbeats 4000000 in
theorem kl_24 (xs : Nat → Int32) (σ : kS) : kX kT 5 xs 201 0 902 [(3, .int 0), (2, .ref 232), (1, .ref 0), (0, .retAddr 0)] [] (kz σ) (fun r _ => r = some (.int 1)) := by
  repeat refine kX_one rfl ?_
  refine kX_cal (kp_found 5 xs 198 (kz σ) (xs 1) rfl rfl rfl rfl) rfl (Or.inr rfl) rfl rfl rfl (fun r1 σ1 q1 => ?_)
  obtain ⟨rfl, rfl⟩ := q1
  repeat refine kX_one rfl ?_
  refine kX_cal (km_found 5 xs 199 (kz σ) (xs 1) rfl rfl rfl rfl) rfl (Or.inr rfl) rfl rfl rfl (fun r1 σ1 q1 => ?_)
  obtain ⟨rfl, rfl⟩ := q1
  refine kX_one rfl ?_
  exact kX_ifT (jeq_rf _) (kl_end xs _)
set_option maxRecDepth 100000 in
set_option maxHeartbeats 4000000 in
theorem kl_25 (xs : Nat → Int32) (σ : kS) : kX kT 5 xs 201 0 925 [(3, .int 0), (2, .ref 232), (1, .ref 0), (0, .retAddr 0)] [] (kz σ) (fun r _ => r = some (.int 1)) := by
  repeat refine kX_one rfl ?_
  refine kX_cal (kp_attack 5 xs 198 (kz σ) (xs 1) rfl) rfl (Or.inr rfl) rfl rfl rfl (fun r1 σ1 q1 => ?_)
  obtain ⟨rfl, rfl⟩ := q1
  repeat refine kX_one rfl ?_
  refine kX_cal (km_attack 5 xs 197 (kz σ) (xs 1) rfl) rfl (Or.inr rfl) rfl rfl rfl (fun r1 σ1 q1 => ?_)
  obtain ⟨rfl, rfl⟩ := q1
  refine kX_one rfl ?_
  exact kX_ifT (jeq_rf _) (kl_end xs _)
set_option maxRecDepth 100000 in
set_option maxHeartbeats 4000000 in
theorem kl_26 (xs : Nat → Int32) (σ : kS) : kX kT 5 xs 201 0 948 [(3, .int 0), (2, .ref 232), (1, .ref 0), (0, .retAddr 0)] [] (kz σ) (fun r _ => r = some (.int 1)) := by
  repeat refine kX_one rfl ?_
  refine kX_cal (kp_play 5 xs 198 (kz σ) (xs 1) rfl) rfl (Or.inr rfl) rfl rfl rfl (fun r1 σ1 q1 => ?_)
  obtain ⟨rfl, rfl⟩ := q1
  repeat refine kX_one rfl ?_
  refine kX_cal (km_play 5 xs 199 (kz σ) (xs 1) rfl) rfl (Or.inr rfl) rfl rfl rfl (fun r1 σ1 q1 => ?_)
  obtain ⟨rfl, rfl⟩ := q1
  refine kX_one rfl ?_
  exact kX_ifT (jeq_rf _) (kl_end xs _)
set_option maxRecDepth 100000 in
set_option maxHeartbeats 4000000 in
theorem kl_27 (xs : Nat → Int32) (σ : kS) : kX kT 5 xs 201 0 971 [(3, .int 0), (2, .ref 232), (1, .ref 0), (0, .retAddr 0)] [] (kz σ) (fun r _ => r = some (.int 1)) := by
  repeat refine kX_one rfl ?_
  refine kX_cal (kp_told 5 xs 199 (kz σ) (xs 1) rfl rfl rfl rfl rfl rfl) rfl (Or.inr rfl) rfl rfl rfl (fun r1 σ1 q1 => ?_)
  obtain ⟨rfl, rfl⟩ := q1
  repeat refine kX_one rfl ?_
  refine kX_cal (km_told 5 xs 199 (kz σ) (xs 1) rfl rfl rfl rfl rfl rfl) rfl (Or.inr rfl) rfl rfl rfl (fun r1 σ1 q1 => ?_)
  obtain ⟨rfl, rfl⟩ := q1
  refine kX_one rfl ?_
  exact kX_ifT (jeq_rf _) (kl_end xs _)
set_option maxRecDepth 100000 in
set_option maxHeartbeats 4000000 in
theorem kl_28 (xs : Nat → Int32) (σ : kS) : kX kT 5 xs 201 0 994 [(3, .int 0), (2, .ref 232), (1, .ref 0), (0, .retAddr 0)] [] (kz σ) (fun r _ => r = some (.int 1)) := by
  repeat refine kX_one rfl ?_
  refine kX_cal (kp_ofRole 5 xs 198 (kz σ) (xs 1) (xs 2) rfl) rfl (Or.inr rfl) rfl rfl rfl (fun r1 σ1 q1 => ?_)
  obtain ⟨rfl, rfl⟩ := q1
  repeat refine kX_one rfl ?_
  refine kX_cal (km_ofRole 5 xs 197 (kz σ) (xs 1) (xs 2) rfl) rfl (Or.inr rfl) rfl rfl rfl (fun r1 σ1 q1 => ?_)
  obtain ⟨rfl, rfl⟩ := q1
  refine kX_one rfl ?_
  exact kX_ifT (jeq_rf _) (kl_end xs _)
set_option maxRecDepth 100000 in
set_option maxHeartbeats 4000000 in
theorem kl_29 (xs : Nat → Int32) (σ : kS) : kX kT 5 xs 201 0 1027 [(3, .int 0), (2, .ref 232), (1, .ref 0), (0, .retAddr 0)] [] (kz σ) (fun r _ => r = some (.int 1)) := by
  repeat refine kX_one rfl ?_
  refine kX_cal (kq_clear 5 xs σ) rfl (Or.inr rfl) rfl rfl rfl (fun r1 σ1 q1 => ?_)
  obtain ⟨rfl, hk⟩ := q1
  rw [← kkeep_eq hk]
  repeat refine kX_one rfl ?_
  refine kX_cal (kr_clear 5 xs σ σ1) rfl (Or.inr rfl) rfl rfl rfl (fun r1 σ1 q1 => ?_)
  obtain rfl := q1
  refine kX_one rfl ?_
  exact kX_ifT (jeq_rf _) (kl_end xs _)
set_option maxRecDepth 100000 in
set_option maxHeartbeats 4000000 in
theorem kl_sw (xs : Nat → Int32) (σ : kS) (k : Nat) (hk : k < 32) : kX kT 5 xs 201 0 32 [(3, .int 0), (2, .ref 232), (1, .ref 0), (0, .retAddr 0)] [.int (nI k)] (kz σ) (fun r _ => r = some (.int 1)) := by
  rcases (show k = 0 ∨ k = 1 ∨ k = 2 ∨ k = 3 ∨ k = 4 ∨ k = 5 ∨ k = 6 ∨ k = 7 ∨ k = 8 ∨ k = 9 ∨ k = 10 ∨ k = 11 ∨ k = 12 ∨ k = 13 ∨ k = 14 ∨ k = 15 ∨ k = 16 ∨ k = 17 ∨ k = 18 ∨ k = 19 ∨ k = 20 ∨ k = 21 ∨ k = 22 ∨ k = 23 ∨ k = 24 ∨ k = 25 ∨ k = 26 ∨ k = 27 ∨ k = 28 ∨ k = 29 ∨ k = 30 ∨ k = 31 by omega) with rfl | rfl | rfl | rfl | rfl | rfl | rfl | rfl | rfl | rfl | rfl | rfl | rfl | rfl | rfl | rfl | rfl | rfl | rfl | rfl | rfl | rfl | rfl | rfl | rfl | rfl | rfl | rfl | rfl | rfl | rfl | rfl
  · exact kX_one rfl (kl_0 xs σ)
  · exact kX_one rfl (kl_1 xs σ)
  · exact kX_one rfl (kl_2 xs σ)
  · exact kX_one rfl (kl_3 xs σ)
  · exact kX_one rfl (kl_4 xs σ)
  · exact kX_one rfl (kl_5 xs σ)
  · exact kX_one rfl (kl_6 xs σ)
  · exact kX_one rfl (kl_7 xs σ)
  · exact kX_one rfl (kl_8 xs σ)
  · exact kX_one rfl (kl_9 xs σ)
  · exact kX_one rfl (kl_10 xs σ)
  · exact kX_one rfl (kl_11 xs σ)
  · exact kX_one rfl (kl_12 xs σ)
  · exact kX_one rfl (kl_13 xs σ)
  · exact kX_one rfl (kl_14 xs σ)
  · exact kX_one rfl (kl_15 xs σ)
  · exact kX_one rfl (kl_16 xs σ)
  · exact kX_one rfl (kl_17 xs σ)
  · exact kX_one rfl (kl_18 xs σ)
  · exact kX_one rfl (kl_19 xs σ)
  · exact kX_one rfl (kl_20 xs σ)
  · exact kX_one rfl (kl_21 xs σ)
  · exact kX_one rfl (kl_22 xs σ)
  · exact kX_one rfl (kl_23 xs σ)
  · exact kX_one rfl (kl_24 xs σ)
  · exact kX_one rfl (kl_25 xs σ)
  · exact kX_one rfl (kl_26 xs σ)
  · exact kX_one rfl (kl_27 xs σ)
  · exact kX_one rfl (kl_28 xs σ)
  · exact kX_one rfl (kl_29 xs σ)
  · exact kX_one rfl (kl_end xs _)
  · exact kX_one rfl (kl_end xs _)
/-- what is left: from the loop's head, over the fixed shape, the law answers 1 -/
def kAnsX (N : Nat) : Prop := ∀ (L : Nat) (xs : Nat → Int32), L ≤ N → ∀ h0 : List jC, kshps kT h0 = true → (∀ j, j < 256 → kof h0 7 j = -1) → (∀ j, j < 256 → kof h0 187 j = -1) → (∀ j, j < 256 → kof h0 205 j = -1) → (∀ j, j < 256 → kof h0 214 j = -1) → (∀ j, j < 1024 → kof h0 242 j = -1) → kX kT L xs 201 0 18 [(3, .int 0), (2, .ref 232), (1, .ref 0), (0, .retAddr 0)] [] (kof h0) (fun r _ => r = some (.int 1))
theorem kAnsX_ok {N : Nat} (h : kAnsX N) : jAns N := by
  intro L xs hL
  obtain ⟨h0, k1, k2, k3, k4, k5, k6, k7, k8, hr⟩ := kstart L xs
  have hE := kshps_ok kT h0 k1
  obtain ⟨r, σ', h', g1, g2, rfl⟩ := h L xs hL h0 k1 k4 k5 k6 k7 k8 h0 hE
  obtain ⟨n, hn⟩ := hr _ g1
  refine ⟨n, 201, h', hn, by decide, ?_, ?_⟩
  · rw [g2.1, ← hE.1, k2]
    decide
  · rw [g2.sl, ← hE.sl]
    omega
set_option maxRecDepth 100000 in
theorem kAns5 : kAnsX 5 := by
  intro L xs hL h0 hs _ _ _ _ _
  rw [kz_of hs]
  by_cases h5 : L = 5
  · subst h5
    repeat refine kX_one rfl ?_
    obtain ⟨j, hj, e⟩ := pk_andE (xs 0) (m := 31) 5 (by decide)
    show kX kT 5 xs 201 0 32 _ [.int (xs 0 &&& 31)] (kz (kof h0)) _
    rw [e]
    exact kl_sw xs (kof h0) j hj
  · repeat refine kX_one rfl ?_
    refine kX_ifT (by
      show jcmp .gt (0 : Int32) (Int32.ofNat L - Int32.ofInt 5) = true
      rcases (show L = 0 ∨ L = 1 ∨ L = 2 ∨ L = 3 ∨ L = 4 by omega) with rfl | rfl | rfl | rfl | rfl <;> decide) ?_
    repeat refine kX_one rfl ?_
    exact kX_ret rfl (Or.inr rfl) rfl rfl
