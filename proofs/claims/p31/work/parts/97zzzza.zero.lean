/-! the start once more: no mark of an intruder yet; both sides are alike at first -/
def kmz (h : List jC) (K : Nat) : Bool := kzr h (K + 5) 1928 && (kzr h (K + 6) 1928 && kzr h (K + 7) 200)
def kctor5 : Bool := match jcA with
  | some (none, hA) => decide (hA.length = 232) && (match jcB hA with
    | some (none, hB) => kshps kT hB && (decide (hB.length = 294) && (decide (jsl hB ≤ 1000000) && (khd hB 7 256 && (khd hB 187 256 && (khd hB 205 256 && (khd hB 214 256 && (khd hB 242 1024 && (kzr hB 231 200 && (kmz hB 186 && (kmz hB 204 && kmz hB 213))))))))))
    | _ => false)
  | _ => false
set_option maxRecDepth 1000000 in
theorem kctor5_ok : kctor5 = true := by decide +kernel
/-- no marks -/
def kmZ (σ : kS) (K : Nat) : Prop := (∀ g, g < 1928 → σ (K + 5) g = 0) ∧ (∀ g, g < 1928 → σ (K + 6) g = 0) ∧ ∀ a, a < 200 → σ (K + 7) a = 0
theorem kmz_ok {h : List jC} {K : Nat} (q : kmz h K = true) : kmZ (kof h) K := by
  unfold kmz at q
  simp only [Bool.and_eq_true] at q
  exact ⟨fun g hg => kzr_ok q.1 hg, fun g hg => kzr_ok q.2.1 hg, fun a ha => kzr_ok q.2.2 ha⟩
/-- what holds of the contents at the loop's head at first -/
def k0 (h0 : List jC) : Prop := kshps kT h0 = true ∧ (∀ j, j < 256 → kof h0 7 j = -1) ∧ (∀ j, j < 256 → kof h0 187 j = -1) ∧ (∀ j, j < 256 → kof h0 205 j = -1) ∧ (∀ j, j < 256 → kof h0 214 j = -1) ∧ (∀ j, j < 1024 → kof h0 242 j = -1) ∧ (∀ j, j < 200 → kof h0 231 j = 0) ∧ kmZ (kof h0) 186 ∧ kmZ (kof h0) 204 ∧ kmZ (kof h0) 213
theorem kstart4 (L : Nat) (xs : Nat → Int32) : ∃ h0 : List jC, k0 h0 ∧ h0.length = 294 ∧ jsl h0 ≤ 1000000 ∧
    ∀ r, jG L xs 201 0 18 [(3, .int 0), (2, .ref 232), (1, .ref 0), (0, .retAddr 0)] [] h0 r → jG L xs 201 0 0 [(0, .retAddr 0)] [] [] r := by
  have hk := kctor5_ok
  unfold kctor5 at hk
  split at hk
  · next hA hcA =>
    rw [Bool.and_eq_true] at hk
    obtain ⟨hlA, hk⟩ := hk
    have hlA := of_decide_eq_true hlA
    split at hk
    · next hB hcB =>
      simp only [Bool.and_eq_true] at hk
      obtain ⟨k1, k2, k3, k4, k5, k6, k7, k8, hz, y1, y2, y3⟩ := hk
      refine ⟨hB, ⟨k1, fun j hj => khd_ok k4 hj, fun j hj => khd_ok k5 hj, fun j hj => khd_ok k6 hj, fun j hj => khd_ok k7 hj, fun j hj => khd_ok k8 hj, fun j hj => kzr_ok hz hj, kmz_ok y1, kmz_ok y2, kmz_ok y3⟩, of_decide_eq_true k2, of_decide_eq_true k3, ?_⟩
      intro r hr
      have mA : jMR L xs 200 108 [.ref 0] [jnew 10] (none, hA) := by
        obtain ⟨n, hn⟩ := qrun_ok _ _ _ _ (jS0_ok 0 (fun _ => 0)) _ _ _ _ _ _ _ _ hcA
        exact ⟨n, by rw [← hn]; exact jrun_indep L 0 xs (fun _ => 0) n 200 108 0 _ _ _ (by decide)⟩
      have mB : jMR L xs 200 144 [.ref 232] (hA ++ [jnew 11]) (none, hB) := by
        obtain ⟨n, hn⟩ := qrun_ok _ _ _ _ (jS0_ok 0 (fun _ => 0)) _ _ _ _ _ _ _ _ hcB
        exact ⟨n, by rw [← hn]; exact jrun_indep L 0 xs (fun _ => 0) n 200 144 0 _ _ _ (by decide)⟩
      refine jG_seg 2 (pc' := 4) (lv' := [(0, .retAddr 0)]) (st' := [.ref 0, .ref 0]) (h' := [jnew 10]) (fun N => rfl) ?_
      refine jG_call (i := .invokespecial 9) (len := 3) (y := 108) (as := [.ref 0]) (rest := [.ref 0]) rfl (Or.inr rfl) rfl rfl (by decide +kernel) mA ?_
      refine jG_seg 3 (pc' := 12) (lv' := [(1, .ref 0), (0, .retAddr 0)]) (st' := [.ref hA.length, .ref hA.length]) (h' := hA ++ [jnew 11]) (fun N => rfl) ?_
      rw [hlA]
      refine jG_call (i := .invokespecial 12) (len := 3) (y := 144) (as := [.ref 232]) (rest := [.ref 232]) rfl (Or.inr rfl) rfl rfl (by decide +kernel) mB ?_
      exact jG_seg 3 (pc' := 18) (lv' := [(3, .int 0), (2, .ref 232), (1, .ref 0), (0, .retAddr 0)]) (st' := []) (h' := hB) (fun N => rfl) hr
    · cases hk
  · cases hk
/-- what is left: from the loop's head, over the fixed shape, the law answers 1 -/
def kAns4 (N : Nat) : Prop := ∀ (L : Nat) (xs : Nat → Int32), L ≤ N → ∀ h0 : List jC, k0 h0 → kX kT L xs 201 0 18 [(3, .int 0), (2, .ref 232), (1, .ref 0), (0, .retAddr 0)] [] (kof h0) (fun r _ => r = some (.int 1))
theorem kAns4_ok {N : Nat} (h : kAns4 N) : jAns N := by
  intro L xs hL
  obtain ⟨h0, k1, k2, k3, hr⟩ := kstart4 L xs
  have hE := kshps_ok kT h0 k1.1
  obtain ⟨r, σ', h', g1, g2, rfl⟩ := h L xs hL h0 k1 h0 hE
  obtain ⟨n, hn⟩ := hr _ g1
  refine ⟨n, 201, h', hn, by decide, ?_, ?_⟩
  · rw [g2.1, ← hE.1, k2]
    decide
  · rw [g2.sl, ← hE.sl]
    omega
theorem mI_0 {h0 : List jC} (hs : kshps kT h0 = true) (hh : ∀ j, j < 1024 → kof h0 242 j = -1) : mI (kof h0) 0 200 0 0 0 [] :=
  mI_empty (kof_obj (k := 232) hs rfl rfl) (kof_obj (k := 232) hs rfl rfl) (kof_obj (k := 232) hs rfl rfl) (kof_obj (k := 232) hs rfl rfl) (kof_obj (k := 232) hs rfl rfl) (kof_obj (k := 232) hs rfl rfl) (kof_obj (k := 232) hs rfl rfl) (kof_obj (k := 232) hs rfl rfl) hh
theorem kMs_0 {σ : kS} {K : Nat} (e : σ K 12 = 0) (h : kmZ σ K) : kMs σ K 0 :=
  ⟨e, fun g hg => ⟨0, Nat.le_refl _, h.1 g hg⟩, fun g hg => ⟨0, Nat.le_refl _, Or.inl (h.2.1 g hg)⟩, fun a ha => ⟨0, Nat.le_refl _, h.2.2 a ha⟩⟩
theorem bJ_0 {h0 : List jC} (h : k0 h0) : bJ 0 (kof h0) := by
  obtain ⟨hs, h7, h187, h205, h214, h242, h231, z1, z2, z3⟩ := h
  refine ⟨0, 200, 0, 0, 0, [], mI_0 hs h242, cJ_0 hs h7 h187 h205 h214 h231, ⟨fun t ht => absurd ht (Nat.not_lt_zero t), fun j hj => Or.inl ⟨h7 j hj, fun t _ q => absurd q.1.1 (Nat.not_lt_zero t)⟩, fun t q => absurd q.1 (Nat.not_lt_zero t)⟩, fun r hr => absurd hr (Nat.not_lt_zero r), fun s hs' => absurd hs' (Nat.not_lt_zero s), fun c hc => absurd hc (Nat.not_lt_zero c), ⟨kof_obj (k := 13) hs rfl rfl, lst_nil _⟩, aU_none (kof_obj (k := 181) hs rfl rfl) (kof_obj (k := 232) hs rfl rfl), aF_none (kof_obj (k := 196) hs rfl rfl) (kof_obj (k := 195) hs rfl rfl) (kof_obj (k := 195) hs rfl rfl) (kof_obj (k := 195) hs rfl rfl) (kof_obj (k := 232) hs rfl rfl) (kof_obj (k := 232) hs rfl rfl) (kof_obj (k := 232) hs rfl rfl) (kof_obj (k := 232) hs rfl rfl), 0, 0, 0, Nat.le_refl _, Nat.le_refl _, Nat.le_refl _, kMs_0 (kof_obj (k := 186) hs rfl rfl) z1, kMs_0 (kof_obj (k := 204) hs rfl rfl) z2, kMs_0 (kof_obj (k := 213) hs rfl rfl) z3⟩
