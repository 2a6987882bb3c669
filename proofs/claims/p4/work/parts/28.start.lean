theorem kof_obj {h : List jC} (hs : kshps kT h = true) {k j ci : Nat} {ts : List Value} {x : Int32} (hk : kT[k]? = some (.inr (ci, ts))) (hj : ts[j]? = some (.int x)) : kof h k j = x := by
  have key : ∀ (T h : List jC), kshps T h = true → ∀ (k : Nat) (t : jC), T[k]? = some t → ∃ c, h[k]? = some c ∧ kshp t c = true := by
    intro T
    induction T with
    | nil => intro h _ k t hk; simp at hk
    | cons t0 T ih =>
      intro h hs k t hk
      cases h with
      | nil => cases hs
      | cons c0 h =>
        unfold kshps at hs
        rw [Bool.and_eq_true] at hs
        cases k with
        | zero =>
          simp at hk
          subst hk
          exact ⟨c0, rfl, hs.1⟩
        | succ k =>
          simp at hk
          obtain ⟨c, h1, h2⟩ := ih h hs.2 k t hk
          exact ⟨c, by simpa using h1, h2⟩
  obtain ⟨c, h1, h2⟩ := key kT h hs k _ hk
  obtain q | ⟨ci', fs⟩ := c
  · cases h2
  · have h3 : (decide (ci' = ci) && decide (fs = ts)) = true := h2
    rw [Bool.and_eq_true] at h3
    have h4 := of_decide_eq_true h3.2
    subst h4
    unfold kof
    rw [h1]
    show (match (fs[j]? : Option Value) with | some (.int x) => x | _ => 0) = x
    rw [hj]
theorem khd_ok {h : List jC} {k n j : Nat} (hh : khd h k n = true) (hj : j < n) : kof h k j = -1 := by
  unfold khd at hh
  unfold kof
  split at hh
  · next c hc =>
    exact of_decide_eq_true (List.all_eq_true.mp hh j (List.mem_range.mpr hj))
  · cases hh
