def jm_mck (k : Nat) (e : Nat × Nat × Nat × Nat × Nat) : Bool := decide ((parseMethodDescriptor (jm_nm e.2.2.1).desc).map (fun d => d.parameters.length) = some e.2.2.2.1) && (if e.2.1 ≤ 2 then jck e.2.2.2.2 (Cond.methodLink (jm_cn k) e.1 (jm_nm e.2.2.1)) else decide (Cond.methodLinkNest (jm_cn k) e.1 (jm_nm e.2.2.1) jm_host ∈ jm_nest)) && (if e.2.1 = 0 ∨ e.2.1 = 3 then jck (jm_wp.getD e.2.2.1 (0, 0, 0, 0)).2.2.1 (Cond.instanceMethod (jm_nm e.2.2.1)) && jck (jm_wp.getD e.2.2.1 (0, 0, 0, 0)).2.2.2 (Cond.selects (jm_nm e.2.2.1).cls (jm_nm e.2.2.1) (jm_nm e.2.2.1)) && decide (vwCl[jm_own e.2.2.1]?.map (fun q => q.1) = some (jm_nm e.2.2.1).cls) else if e.2.1 = 1 ∨ e.2.1 = 4 then jck (jm_wp.getD e.2.2.1 (0, 0, 0, 0)).2.2.1 (Cond.instanceMethod (jm_nm e.2.2.1)) && decide ((jm_nm e.2.2.1).name = "<init>") && decide (jm_ret e.2.2.1 = none) else jck (jm_wp.getD e.2.2.1 (0, 0, 0, 0)).2.2.1 (Cond.static (jm_nm e.2.2.1)))
theorem jmA_0_0 : jmT_0_0.all (jm_mck 0) = true := by decide +kernel
theorem jmA_0_1 : jmT_0_1.all (jm_mck 0) = true := by decide +kernel
theorem jmA_1_0 : jmT_1_0.all (jm_mck 1) = true := by decide +kernel
theorem jmA_3_0 : jmT_3_0.all (jm_mck 3) = true := by decide +kernel
theorem jmA_4_0 : jmT_4_0.all (jm_mck 4) = true := by decide +kernel
theorem jmA_4_1 : jmT_4_1.all (jm_mck 4) = true := by decide +kernel
theorem jmA_5_0 : jmT_5_0.all (jm_mck 5) = true := by decide +kernel
theorem jmA_6_0 : jmT_6_0.all (jm_mck 6) = true := by decide +kernel
theorem jmA_6_1 : jmT_6_1.all (jm_mck 6) = true := by decide +kernel
theorem jmA_7_0 : jmT_7_0.all (jm_mck 7) = true := by decide +kernel
theorem jmA_7_1 : jmT_7_1.all (jm_mck 7) = true := by decide +kernel
theorem jmA_8_0 : jmT_8_0.all (jm_mck 8) = true := by decide +kernel
theorem jmA_9_0 : jmT_9_0.all (jm_mck 9) = true := by decide +kernel
theorem jmA_10_0 : jmT_10_0.all (jm_mck 10) = true := by decide +kernel
theorem jmA_10_1 : jmT_10_1.all (jm_mck 10) = true := by decide +kernel
theorem jmA_10_2 : jmT_10_2.all (jm_mck 10) = true := by decide +kernel
theorem jmA_10_3 : jmT_10_3.all (jm_mck 10) = true := by decide +kernel
theorem jmA_10_4 : jmT_10_4.all (jm_mck 10) = true := by decide +kernel
theorem jmA_11_0 : jmT_11_0.all (jm_mck 11) = true := by decide +kernel
theorem jmA_11_1 : jmT_11_1.all (jm_mck 11) = true := by decide +kernel
theorem jmA_11_2 : jmT_11_2.all (jm_mck 11) = true := by decide +kernel
theorem jmA_11_3 : jmT_11_3.all (jm_mck 11) = true := by decide +kernel
theorem jmA_11_4 : jmT_11_4.all (jm_mck 11) = true := by decide +kernel
theorem jmA_12_0 : jmT_12_0.all (jm_mck 12) = true := by decide +kernel
theorem jmA_12_1 : jmT_12_1.all (jm_mck 12) = true := by decide +kernel
theorem jmA_12_2 : jmT_12_2.all (jm_mck 12) = true := by decide +kernel
theorem jmA_12_3 : jmT_12_3.all (jm_mck 12) = true := by decide +kernel
theorem jmA_12_4 : jmT_12_4.all (jm_mck 12) = true := by decide +kernel
theorem jmA_12_5 : jmT_12_5.all (jm_mck 12) = true := by decide +kernel
theorem jall_app {α : Type} {f : α → Bool} {a b : List α} (h1 : a.all f = true) (h2 : b.all f = true) : (a ++ b).all f = true := by rw [List.all_append, h1, h2]; rfl
theorem jm_mth_all : ∀ k ∈ [0, 1, 2, 3, 4, 5, 6, 7, 8, 9, 10, 11, 12, 13, 14], (jm_mthT k).all (jm_mck k) = true := by
  intro k hk
  simp only [List.mem_cons, List.not_mem_nil, or_false] at hk
  rcases hk with rfl | rfl | rfl | rfl | rfl | rfl | rfl | rfl | rfl | rfl | rfl | rfl | rfl | rfl | rfl
  · exact (jall_app jmA_0_0 jmA_0_1)
  · exact jmA_1_0
  · rfl
  · exact jmA_3_0
  · exact (jall_app jmA_4_0 jmA_4_1)
  · exact jmA_5_0
  · exact (jall_app jmA_6_0 jmA_6_1)
  · exact (jall_app jmA_7_0 jmA_7_1)
  · exact jmA_8_0
  · exact jmA_9_0
  · exact (jall_app jmA_10_0 (jall_app jmA_10_1 (jall_app jmA_10_2 (jall_app jmA_10_3 jmA_10_4))))
  · exact (jall_app jmA_11_0 (jall_app jmA_11_1 (jall_app jmA_11_2 (jall_app jmA_11_3 jmA_11_4))))
  · exact (jall_app jmA_12_0 (jall_app jmA_12_1 (jall_app jmA_12_2 (jall_app jmA_12_3 (jall_app jmA_12_4 jmA_12_5)))))
  · rfl
  · rfl
theorem jm_mth_ok : ∀ k idx kd y n, jm_mth k idx = some (kd, y, n) → (parseMethodDescriptor (jm_nm y).desc).map (fun d => d.parameters.length) = some n ∧
    ((kd = 0 ∨ kd = 1 ∨ kd = 2) → Cond.methodLink (jm_cn k) idx (jm_nm y) ∈ jm_gw) ∧ ((kd = 3 ∨ kd = 4 ∨ kd = 5) → Cond.methodLinkNest (jm_cn k) idx (jm_nm y) jm_host ∈ jm_nest) ∧
    ((kd = 0 ∨ kd = 3) → Cond.instanceMethod (jm_nm y) ∈ jm_gw ∧ Cond.selects (jm_nm y).cls (jm_nm y) (jm_nm y) ∈ jm_gw ∧ vwCl[jm_own y]?.map (fun q => q.1) = some (jm_nm y).cls) ∧
    ((kd = 1 ∨ kd = 4) → Cond.instanceMethod (jm_nm y) ∈ jm_gw ∧ (jm_nm y).name = "<init>" ∧ jm_ret y = none) ∧ ((kd = 2 ∨ kd = 5) → Cond.static (jm_nm y) ∈ jm_gw) := by
  intro k idx kd y n h
  unfold jm_mth at h
  obtain ⟨q, hf, hq⟩ := Option.map_eq_some_iff.mp h
  have hm := List.mem_of_find?_eq_some hf
  have hi := List.find?_some hf
  have hk : k ∈ [0, 1, 2, 3, 4, 5, 6, 7, 8, 9, 10, 11, 12, 13, 14] := by
    rcases Nat.lt_or_ge k 15 with h9 | h9
    · have : ∀ k, k < 15 → k ∈ [0, 1, 2, 3, 4, 5, 6, 7, 8, 9, 10, 11, 12, 13, 14] := by decide
      exact this k h9
    · exfalso
      match k, h9, hm with
      | k + 15, _, hm => exact absurd hm List.not_mem_nil
  have hc := List.all_eq_true.mp (jm_mth_all k hk) _ hm
  cases hq
  simp only [beq_iff_eq] at hi
  subst hi
  unfold jm_mck at hc
  simp only [Bool.and_eq_true] at hc
  obtain ⟨⟨h1, h2⟩, h3⟩ := hc
  refine ⟨of_decide_eq_true h1, fun hk => ?_, fun hk => ?_, fun hk => ?_, fun hk => ?_, fun hk => ?_⟩
  · rw [if_pos (by omega)] at h2
    exact jck_ok h2
  · rw [if_neg (by omega)] at h2
    exact of_decide_eq_true h2
  · rw [if_pos hk] at h3
    simp only [Bool.and_eq_true] at h3
    exact ⟨jck_ok h3.1.1, jck_ok h3.1.2, of_decide_eq_true h3.2⟩
  · rw [if_neg (by omega), if_pos hk] at h3
    simp only [Bool.and_eq_true] at h3
    exact ⟨jck_ok h3.1.1, of_decide_eq_true h3.1.2, of_decide_eq_true h3.2⟩
  · rw [if_neg (by omega), if_neg (by omega)] at h3
    exact jck_ok h3
