theorem kof_obj {h : List jC} (hs : kshps kT h = true) {k j ci : Nat} {ts : List Value} {x : Int32} (hk : kT[k]? = some (.inr (ci, ts))) (hj : ts[j]? = some (.int x)) : kof h k j = x := by
  have key : ∀ (T h : List jC), kshps T h = true → ∀ (k : Nat) (t : jC), T[k]? = some t → ∃ c, h[k]? = some c ∧ kshp t c = true := by
    intro T
    induction T with
    | nil => intro h _ k t hk; simp at hk
    | cons t0 T ih =>
      intro h hs k t hk
      cases h with
      | nil => cases hs
      | cons c0 h =>
        unfold kshps at hs
        rw [Bool.and_eq_true] at hs
        cases k with
        | zero =>
          simp at hk
          subst hk
          exact ⟨c0, rfl, hs.1⟩
        | succ k =>
          simp at hk
          obtain ⟨c, h1, h2⟩ := ih h hs.2 k t hk
          exact ⟨c, by simpa using h1, h2⟩
  obtain ⟨c, h1, h2⟩ := key kT h hs k _ hk
  obtain q | ⟨ci', fs⟩ := c
  · cases h2
  · have h3 : (decide (ci' = ci) && decide (fs = ts)) = true := h2
    rw [Bool.and_eq_true] at h3
    have h4 := of_decide_eq_true h3.2
    subst h4
    unfold kof
    rw [h1]
    show (match (fs[j]? : Option Value) with | some (.int x) => x | _ => 0) = x
    rw [hj]
theorem khd_ok {h : List jC} {k n j : Nat} (hh : khd h k n = true) (hj : j < n) : kof h k j = -1 := by
  unfold khd at hh
  unfold kof
  split at hh
  · next c hc =>
    exact of_decide_eq_true (List.all_eq_true.mp hh j (List.mem_range.mpr hj))
  · cases hh
/-- the law from its entry to the head of its loop -/
theorem kstart (L : Nat) (xs : Nat → Int32) : ∃ h0 : List jC, kshps kT h0 = true ∧ h0.length = 294 ∧ jsl h0 ≤ 1000000 ∧ (∀ j, j < 256 → kof h0 7 j = -1) ∧ (∀ j, j < 256 → kof h0 187 j = -1) ∧ (∀ j, j < 256 → kof h0 205 j = -1) ∧ (∀ j, j < 256 → kof h0 214 j = -1) ∧ (∀ j, j < 1024 → kof h0 242 j = -1) ∧
    ∀ r, jG L xs 201 0 18 [(3, .int 0), (2, .ref 232), (1, .ref 0), (0, .retAddr 0)] [] h0 r → jG L xs 201 0 0 [(0, .retAddr 0)] [] [] r := by
  have hk := kctor_ok
  unfold kctor at hk
  split at hk
  · next hA hcA =>
    rw [Bool.and_eq_true] at hk
    obtain ⟨hlA, hk⟩ := hk
    have hlA := of_decide_eq_true hlA
    split at hk
    · next hB hcB =>
      simp only [Bool.and_eq_true] at hk
      obtain ⟨k1, k2, k3, k4, k5, k6, k7, k8⟩ := hk
      refine ⟨hB, k1, of_decide_eq_true k2, of_decide_eq_true k3, fun j hj => khd_ok k4 hj, fun j hj => khd_ok k5 hj, fun j hj => khd_ok k6 hj, fun j hj => khd_ok k7 hj, fun j hj => khd_ok k8 hj, ?_⟩
      intro r hr
      have mA : jMR L xs 200 108 [.ref 0] [jnew 10] (none, hA) := by
        obtain ⟨n, hn⟩ := qrun_ok _ _ _ _ (jS0_ok 0 (fun _ => 0)) _ _ _ _ _ _ _ _ hcA
        exact ⟨n, by rw [← hn]; exact jrun_indep L 0 xs (fun _ => 0) n 200 108 0 _ _ _ (by decide)⟩
      have mB : jMR L xs 200 144 [.ref 232] (hA ++ [jnew 11]) (none, hB) := by
        obtain ⟨n, hn⟩ := qrun_ok _ _ _ _ (jS0_ok 0 (fun _ => 0)) _ _ _ _ _ _ _ _ hcB
        exact ⟨n, by rw [← hn]; exact jrun_indep L 0 xs (fun _ => 0) n 200 144 0 _ _ _ (by decide)⟩
      refine jG_seg 2 (pc' := 4) (lv' := [(0, .retAddr 0)]) (st' := [.ref 0, .ref 0]) (h' := [jnew 10]) (fun N => rfl) ?_
      refine jG_call (i := .invokespecial 9) (len := 3) (y := 108) (as := [.ref 0]) (rest := [.ref 0]) rfl (Or.inr rfl) rfl rfl (by decide +kernel) mA ?_
      refine jG_seg 3 (pc' := 12) (lv' := [(1, .ref 0), (0, .retAddr 0)]) (st' := [.ref hA.length, .ref hA.length]) (h' := hA ++ [jnew 11]) (fun N => rfl) ?_
      rw [hlA]
      refine jG_call (i := .invokespecial 12) (len := 3) (y := 144) (as := [.ref 232]) (rest := [.ref 232]) rfl (Or.inr rfl) rfl rfl (by decide +kernel) mB ?_
      exact jG_seg 3 (pc' := 18) (lv' := [(3, .int 0), (2, .ref 232), (1, .ref 0), (0, .retAddr 0)]) (st' := []) (h' := hB) (fun N => rfl) hr
    · cases hk
  · cases hk
/-- what is left: from the loop's head, over the fixed shape, the law answers 1 -/
def kAns (N : Nat) : Prop := ∀ (L : Nat) (xs : Nat → Int32), L ≤ N → ∀ h0 : List jC, kshps kT h0 = true → (∀ j, j < 256 → kof h0 7 j = -1) → (∀ j, j < 256 → kof h0 187 j = -1) → (∀ j, j < 256 → kof h0 205 j = -1) → (∀ j, j < 256 → kof h0 214 j = -1) → (∀ j, j < 1024 → kof h0 242 j = -1) → ∃ σ', kG kT L xs 201 0 18 [(3, .int 0), (2, .ref 232), (1, .ref 0), (0, .retAddr 0)] [] (kof h0) (some (.int 1)) σ'
theorem kAns_ok {N : Nat} (h : kAns N) : jAns N := by
  intro L xs hL
  obtain ⟨h0, k1, k2, k3, k4, k5, k6, k7, k8, hr⟩ := kstart L xs
  obtain ⟨σ', hg⟩ := h L xs hL h0 k1 k4 k5 k6 k7 k8
  have hE := kshps_ok kT h0 k1
  obtain ⟨h', g1, g2⟩ := hg h0 hE
  obtain ⟨n, hn⟩ := hr _ g1
  refine ⟨n, 201, h', hn, by decide, ?_, ?_⟩
  · rw [g2.1, ← hE.1, k2]
    decide
  · rw [g2.sl, ← hE.sl]
    omega
