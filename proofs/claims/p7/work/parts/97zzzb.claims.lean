/-! alike: secret, agree -/
/-- there is such a VARIABLE -/
def hasV (σ : kS) (R : Nat) (x y : Int32) : Prop := ∃ r v, r < R ∧ x = nI r ∧ v < fN (σ 244 r) ∧ y = nI v
theorem hasV_c {σ : kS} {n R : Nat} {x y : Int32} (hR : mRo σ n R) (hA : aR σ R) : (∃ ro v, ro < R ∧ x = nI ro ∧ v < 6 ∧ y = nI v ∧ v < fN (σ (23 + 35 * ro) 3)) ↔ hasV σ R x y := by
  constructor
  · rintro ⟨r, v, h1, h2, h3, h4, h5⟩
    rw [(hA r h1).1] at h5
    exact ⟨r, v, h1, h2, h5, h4⟩
  · rintro ⟨r, v, h1, h2, h3, h4⟩
    obtain ⟨⟨v0, hv6, hv⟩, -⟩ := hR.2.2.1 r h1
    refine ⟨r, v, h1, h2, ?_, h4, by rw [(hA r h1).1]; exact h3⟩
    rw [hv, fN_nI (by omega)] at h3
    omega
theorem hasV_hi {σ τ : kS} {R : Nat} {x y : Int32} (e : τ 244 = σ 244) : hasV τ R x y ↔ hasV σ R x y := by
  unfold hasV
  rw [e]
set_option maxRecDepth 100000 in
set_option maxHeartbeats 4000000 in
theorem mg_secret (L : Nat) (xs : Nat → Int32) (d : Nat) (σ : kS) (n b R S C : Nat) (kl : List Nat) (x y : Int32) (Q : Option Value → kS → Prop) (h : mI σ n b R S C kl) (hU : ¬ hasV σ R x y → Q (some (.int (-1))) σ) (hF : hasV σ R x y → C = 6 → Q (some (.int (-4))) σ) (hN : ∀ r k, r < R → x = nI r → k < fN (σ 244 r) → y = nI k → C < 6 → Q (some (.int (nI C))) (clS σ C 1 (nI r) (nI k) (nI 0))) : kXM kT L xs (d + 2) 172 [.ref 232, .int x, .int y] σ Q := by
  have h2 := h.2.1
  have hR4 := h2.1
  have h5 := h.2.2.2.2.1
  have hC6 := h5.1
  unfold kXM
  repeat refine kX_one rfl ?_
  refine kX_cal (mr_isRole L xs d σ R x h2.2.1 (by omega)) rfl (Or.inr rfl) rfl rfl rfl (fun r1 σ1 q1 => ?_)
  obtain ⟨rfl, rfl⟩ := q1
  repeat refine kX_one rfl ?_
  refine kX_if (fun q => ?_) (fun q => ?_)
  · have q := qeq q
    repeat refine kX_one rfl ?_
    refine kX_ret (i := .ireturn) (len := 1) rfl (Or.inr rfl) rfl (hU (fun ⟨r, v, r1, r2, _⟩ => isB_ne.mpr ⟨r, r1, r2⟩ q))
  · obtain ⟨r, hr, rfl⟩ := isB_ne.mp (qeqF q)
    obtain ⟨⟨v, hv6, hv⟩, -⟩ := h2.2.2.1 r hr
    have efv : fN (σ 244 r) = v := by rw [hv, fN_nI (by omega)]
    repeat refine kX_one rfl ?_
    refine kX_ialdV rfl rfl (by decide) (r) (by first | rfl | decide) (by omega) (hv) ?_
    repeat refine kX_one rfl ?_
    refine kX_cal (mr_in L xs (d + 1) σ _ _ _) rfl (Or.inr rfl) rfl rfl rfl (fun r1 σ1 q1 => ?_)
    obtain ⟨rfl, rfl⟩ := q1
    rw [isB_dec]
    repeat refine kX_one rfl ?_
    refine kX_if (fun q => ?_) (fun q => ?_)
    · obtain ⟨q1, q2⟩ := isB_ne.mp (qne q)
      obtain ⟨k, hk, rfl⟩ := (in_N (n := v) (by omega)).mp ⟨q1, q2⟩
      repeat refine kX_one rfl ?_
      refine kX_if (fun q => ?_) (fun q => ?_)
      · have hC : C ≠ 6 := fun e => qne q (by rw [h5.2.1, e]; rfl)
        repeat refine kX_one rfl ?_
        refine kX_cal (mr_claim L xs d σ C _ _ _ _ h5.2.1 (by omega) (Or.inr rfl)) rfl (Or.inr rfl) rfl rfl rfl (fun r1 σ1 q1 => ?_)
        obtain ⟨rfl, rfl⟩ := q1
        repeat refine kX_one rfl ?_
        refine kX_ret (i := .ireturn) (len := 1) rfl (Or.inr rfl) rfl (hN r k hr rfl (by rw [efv]; exact hk) rfl (by omega))
      · have hC : C = 6 := by
          have := qneF q
          rw [h5.2.1] at this
          exact nI_inj this
        repeat refine kX_one rfl ?_
        refine kX_ret (i := .ireturn) (len := 1) rfl (Or.inr rfl) rfl (hF ⟨r, k, hr, rfl, by rw [efv]; exact hk, rfl⟩ hC)
    · have q := qneF q
      have hq : ¬ hasV σ R (nI r) y := fun ⟨r', k, r1, r2, k1, k2⟩ => by
        obtain rfl : r = r' := nI_inj r2
        rw [efv] at k1
        exact isB_ne.mpr ((in_N (by omega)).mpr ⟨k, k1, k2⟩) q
      repeat refine kX_one rfl ?_
      refine kX_ret (i := .ireturn) (len := 1) rfl (Or.inr rfl) rfl (hU hq)
set_option maxRecDepth 100000 in
set_option maxHeartbeats 4000000 in
theorem bo_secret (L : Nat) (xs : Nat → Int32) (d d' m : Nat) (σ : kS) (x y : Int32) (h : bJ m σ) : kXM kT L xs (d + 3) 119 [.ref 0, .int x, .int y] σ (fun r τ => ∃ z, r = some (.int z) ∧ kXM kT L xs (d' + 2) 172 [.ref 232, .int x, .int y] τ (fun r' ω => r' = some (.int z) ∧ bJ m ω)) := by
  have hb := h
  obtain ⟨n, b, R, S, C, kl, h⟩ := h
  have hI := h.1
  have hJ := h.2.1
  have hR := h.2.2.2.1
  have hc := hJ.2.2.2.1
  have hC6 := hc.1
  have hR4 := hI.2.1.1
  unfold kXM
  iterate 4 (refine kX_one rfl ?_)
  refine kX_cal (mc_hasVariable L xs d σ n R x y hJ.2.1) rfl (Or.inr rfl) rfl rfl rfl (fun r1 σ1 q1 => ?_)
  obtain ⟨rfl, rfl⟩ := q1
  repeat refine kX_one rfl ?_
  refine kX_if (fun q => ?_) (fun q => ?_)
  · have hV := (hasV_c hI.2.1 hR).mp (isB_ne.mp (qne q))
    obtain ⟨ro, v, r1, rfl, v1, rfl⟩ := hV
    obtain ⟨⟨v0, hv6, hv⟩, -⟩ := hI.2.1.2.2.1 ro r1
    have hv60 : v < 6 := by rw [hv, fN_nI (by omega)] at v1; omega
    iterate 3 (refine kX_one rfl ?_)
    refine kX_top (hc.2.1) ?_
    iterate 1 (refine kX_one rfl ?_)
    repeat refine kX_one rfl ?_
    refine kX_if (fun q2 => ?_) (fun q2 => ?_)
    · have q2 := qlt q2 C 6
      iterate 6 (refine kX_one rfl ?_)
      refine kX_cal (mf_newClaim L xs (d + 1) σ n R S C 1 (nI ro) (nI ro) (nI v) (Or.inr ⟨rfl, v, hv60, rfl⟩) hJ q2) rfl (Or.inr rfl) rfl rfl rfl (fun r1 σ1 q1 => ?_)
      obtain ⟨rfl, c1, c2, c3, c4⟩ := q1
      have hi : ∀ c, 232 ≤ c → σ1 c = σ c := fun c hc => c2 c (by omega) (by omega)
      have hI1 := aJ_hi h hi
      refine kX_ret (i := .ireturn) (len := 1) rfl (Or.inr rfl) rfl (⟨_, rfl, mg_secret L xs d' σ1 n b R S C kl _ _ _ hI1 (fun z => absurd ((hasV_hi (hi _ (by decide))).mpr ⟨ro, v, r1, rfl, v1, rfl⟩) z) (fun _ z => by omega) (fun r k g1 g2 g3 g4 g5 => ⟨rfl, ?_⟩)⟩)
      exact bJ_cl h q2 c1 c2 c3 c4 (mI_cl (nn := 0) hI1 q2 g1 (fun _ => g3) (fun z => absurd z (by decide)) (by omega)) g2 (fun _ => g4) (fun z => absurd z (by decide))
    · have q2 := qltF q2 C 6
      repeat refine kX_one rfl ?_
      refine kX_ret (i := .ireturn) (len := 1) rfl (Or.inr rfl) rfl (⟨_, rfl, mg_secret L xs d' σ n b R S C kl _ _ _ hI (fun z => absurd ⟨ro, v, r1, rfl, v1, rfl⟩ z) (fun _ _ => ⟨rfl, hb⟩) (fun r k g1 g2 g3 g4 g5 => by omega)⟩)
  · have q : ¬ hasV σ R x y := fun z => isB_ne.mpr ((hasV_c hI.2.1 hR).mpr z) (qneF q)
    repeat refine kX_one rfl ?_
    refine kX_ret (i := .ireturn) (len := 1) rfl (Or.inr rfl) rfl (⟨_, rfl, mg_secret L xs d' σ n b R S C kl _ _ _ hI (fun _ => ⟨rfl, hb⟩) (fun z => absurd z q) (fun r k g1 g2 g3 g4 g5 => absurd ⟨r, k, g1, g2, g3, g4⟩ q)⟩)
set_option maxRecDepth 100000 in
set_option maxHeartbeats 4000000 in
theorem mg_agree (L : Nat) (xs : Nat → Int32) (d : Nat) (σ : kS) (n b R S C : Nat) (kl : List Nat) (x y z : Int32) (Q : Option Value → kS → Prop) (h : mI σ n b R S C kl) (hU : ¬ (isN x R ∧ isN y R) → Q (some (.int (-1))) σ) (hO : isN x R ∧ isN y R → ¬ isN z 7 → Q (some (.int (-2))) σ) (hF : isN x R ∧ isN y R → isN z 7 → C = 6 → Q (some (.int (-4))) σ) (hN : ∀ r a k, r < R → x = nI r → a < R → y = nI a → k ≤ 6 → z = nI k → C < 6 → Q (some (.int (nI C))) (clS σ C 0 (nI r) (nI a) (nI k))) : kXM kT L xs (d + 2) 173 [.ref 232, .int x, .int y, .int z] σ Q := by
  have h2 := h.2.1
  have hR4 := h2.1
  have h5 := h.2.2.2.2.1
  have hC6 := h5.1
  unfold kXM
  repeat refine kX_one rfl ?_
  refine kX_cal (mr_isRole L xs d σ R x h2.2.1 (by omega)) rfl (Or.inr rfl) rfl rfl rfl (fun r1 σ1 q1 => ?_)
  obtain ⟨rfl, rfl⟩ := q1
  repeat refine kX_one rfl ?_
  refine kX_if (fun q => ?_) (fun q => ?_)
  · have q := qeq q
    repeat refine kX_one rfl ?_
    refine kX_ret (i := .ireturn) (len := 1) rfl (Or.inr rfl) rfl (hU (fun z => isB_ne.mpr z.1 q))
  · have hx := isB_ne.mp (qeqF q)
    obtain ⟨r, hr, rfl⟩ := hx
    repeat refine kX_one rfl ?_
    refine kX_cal (mr_isRole L xs d σ R y h2.2.1 (by omega)) rfl (Or.inr rfl) rfl rfl rfl (fun r1 σ1 q1 => ?_)
    obtain ⟨rfl, rfl⟩ := q1
    repeat refine kX_one rfl ?_
    refine kX_if (fun q => ?_) (fun q => ?_)
    · obtain ⟨a, ha, rfl⟩ := isB_ne.mp (qne q)
      repeat refine kX_one rfl ?_
      refine kX_cal (mr_in L xs (d + 1) σ _ _ _) rfl (Or.inr rfl) rfl rfl rfl (fun r1 σ1 q1 => ?_)
      obtain ⟨rfl, rfl⟩ := q1
      rw [isB_dec]
      repeat refine kX_one rfl ?_
      refine kX_if (fun q => ?_) (fun q => ?_)
      · obtain ⟨k, k1, k2, rfl⟩ := in_R (lo := 0) (hi := 6) (by omega) (by omega) (isB_ne.mp (qne q)).1 (isB_ne.mp (qne q)).2
        repeat refine kX_one rfl ?_
        refine kX_if (fun q => ?_) (fun q => ?_)
        · have hC : C ≠ 6 := fun e => qne q (by rw [h5.2.1, e]; rfl)
          repeat refine kX_one rfl ?_
          refine kX_cal (mr_claim L xs d σ C _ _ _ _ h5.2.1 (by omega) (Or.inl rfl)) rfl (Or.inr rfl) rfl rfl rfl (fun r1 σ1 q1 => ?_)
          obtain ⟨rfl, rfl⟩ := q1
          repeat refine kX_one rfl ?_
          refine kX_ret (i := .ireturn) (len := 1) rfl (Or.inr rfl) rfl (hN r a k hr rfl ha rfl k2 rfl (by omega))
        · have hC : C = 6 := by
            have := qneF q
            rw [h5.2.1] at this
            exact nI_inj this
          repeat refine kX_one rfl ?_
          refine kX_ret (i := .ireturn) (len := 1) rfl (Or.inr rfl) rfl (hF ⟨⟨r, hr, rfl⟩, a, ha, rfl⟩ ⟨k, by omega, rfl⟩ hC)
      · have q := qneF q
        have hq : ¬ isN z 7 := fun ⟨k, k1, k2⟩ => by
          refine isB_ne.mpr ?_ q
          subst k2
          have : k = 0 ∨ k = 1 ∨ k = 2 ∨ k = 3 ∨ k = 4 ∨ k = 5 ∨ k = 6 := by omega
          rcases this with rfl | rfl | rfl | rfl | rfl | rfl | rfl <;> decide
        repeat refine kX_one rfl ?_
        refine kX_ret (i := .ireturn) (len := 1) rfl (Or.inr rfl) rfl (hO ⟨⟨r, hr, rfl⟩, a, ha, rfl⟩ hq)
    · have q := qneF q
      repeat refine kX_one rfl ?_
      refine kX_ret (i := .ireturn) (len := 1) rfl (Or.inr rfl) rfl (hU (fun z => isB_ne.mpr z.2 q))
set_option maxRecDepth 100000 in
set_option maxHeartbeats 4000000 in
theorem bo_agree (L : Nat) (xs : Nat → Int32) (d d' m : Nat) (σ : kS) (x y z : Int32) (h : bJ m σ) : kXM kT L xs (d + 3) 120 [.ref 0, .int x, .int y, .int z] σ (fun r τ => ∃ z', r = some (.int z') ∧ kXM kT L xs (d' + 2) 173 [.ref 232, .int x, .int y, .int z] τ (fun r' ω => r' = some (.int z') ∧ bJ m ω)) := by
  have hb := h
  obtain ⟨n, b, R, S, C, kl, h⟩ := h
  have hI := h.1
  have hJ := h.2.1
  have hc := hJ.2.2.2.1
  have hC6 := hc.1
  have hR := hJ.2.1
  have hR4 := hR.1
  unfold kXM
  have k22 : ¬ (isN x R ∧ isN y R) → kX kT L xs (d + 3) 120 22 (lv_args 0 [.ref 0, .int x, .int y, .int z]) [] σ (fun r τ => ∃ z', r = some (.int z') ∧ kXM kT L xs (d' + 2) 173 [.ref 232, .int x, .int y, .int z] τ (fun r' ω => r' = some (.int z') ∧ bJ m ω)) := by
    intro q
    repeat refine kX_one rfl ?_
    refine kX_ret (i := .ireturn) (len := 1) rfl (Or.inr rfl) rfl (⟨_, rfl, mg_agree L xs d' σ n b R S C kl _ _ _ _ hI (fun _ => ⟨rfl, hb⟩) (fun z => absurd z q) (fun z => absurd z q) (fun r a k g1 g2 g3 g4 => absurd ⟨⟨r, g1, g2⟩, a, g3, g4⟩ q)⟩)
  have k34 : isN x R ∧ isN y R → ¬ isN z 7 → kX kT L xs (d + 3) 120 34 (lv_args 0 [.ref 0, .int x, .int y, .int z]) [] σ (fun r τ => ∃ z', r = some (.int z') ∧ kXM kT L xs (d' + 2) 173 [.ref 232, .int x, .int y, .int z] τ (fun r' ω => r' = some (.int z') ∧ bJ m ω)) := by
    intro q q2
    repeat refine kX_one rfl ?_
    refine kX_ret (i := .ireturn) (len := 1) rfl (Or.inr rfl) rfl (⟨_, rfl, mg_agree L xs d' σ n b R S C kl _ _ _ _ hI (fun z => absurd q z) (fun _ _ => ⟨rfl, hb⟩) (fun _ z => absurd z q2) (fun r a k g1 g2 g3 g4 g5 g6 => absurd ⟨k, by omega, g6⟩ q2)⟩)
  iterate 3 (refine kX_one rfl ?_)
  refine kX_cal (mc_hasRole L xs (d + 1) σ R x hR.1 hR.2.1) rfl (Or.inr rfl) rfl rfl rfl (fun r1 σ1 q1 => ?_)
  obtain ⟨rfl, rfl⟩ := q1
  repeat refine kX_one rfl ?_
  refine kX_if (fun q => ?_) (fun q => ?_)
  · exact k22 (fun z => isB_ne.mpr z.1 (qeq q))
  · have hx := isB_ne.mp (qeqF q)
    iterate 3 (refine kX_one rfl ?_)
    refine kX_cal (mc_hasRole L xs (d + 1) σ R y hR.1 hR.2.1) rfl (Or.inr rfl) rfl rfl rfl (fun r1 σ1 q1 => ?_)
    obtain ⟨rfl, rfl⟩ := q1
    repeat refine kX_one rfl ?_
    refine kX_if (fun q2 => ?_) (fun q2 => ?_)
    · have hy := isB_ne.mp (qne q2)
      repeat refine kX_one rfl ?_
      refine kX_if (fun q3 => ?_) (fun q3 => ?_)
      · have q3 : z < 0 := of_decide_eq_true q3
        exact k34 ⟨hx, hy⟩ (fun ⟨j, j1, j2⟩ => nI_pos (show j < 2147483648 by omega) (by rw [← j2]; exact q3))
      · have q3 : ¬ z < 0 := of_decide_eq_false q3
        obtain ⟨k, hk, rfl⟩ := nI_of q3
        repeat refine kX_one rfl ?_
        refine kX_if (fun q4 => ?_) (fun q4 => ?_)
        · have q4 := qle q4 k 6
          iterate 3 (refine kX_one rfl ?_)
          refine kX_top (hc.2.1) ?_
          iterate 1 (refine kX_one rfl ?_)
          repeat refine kX_one rfl ?_
          refine kX_if (fun q5 => ?_) (fun q5 => ?_)
          · have q5 := qlt q5 C 6
            iterate 6 (refine kX_one rfl ?_)
            refine kX_cal (mf_newClaim L xs (d + 1) σ n R S C 0 x y (nI k) (Or.inl rfl) hJ q5) rfl (Or.inr rfl) rfl rfl rfl (fun r1 σ1 q1 => ?_)
            obtain ⟨rfl, c1, c2, c3, c4⟩ := q1
            have hi : ∀ c, 232 ≤ c → σ1 c = σ c := fun c hc => c2 c (by omega) (by omega)
            have hI1 := aJ_hi h hi
            refine kX_ret (i := .ireturn) (len := 1) rfl (Or.inr rfl) rfl (⟨_, rfl, mg_agree L xs d' σ1 n b R S C kl _ _ _ _ hI1 (fun z => absurd ⟨hx, hy⟩ z) (fun _ z => absurd ⟨k, by omega, rfl⟩ z) (fun _ _ z => by omega) (fun r a k' g1 g2 g3 g4 g5 g6 g7 => ⟨rfl, ?_⟩)⟩)
            exact bJ_cl h q5 c1 c2 c3 c4 (mI_cl hI1 q5 g1 (fun z => absurd rfl z) (fun _ => g3) g5) g2 (fun z => absurd rfl z) (fun _ => ⟨g4, g6⟩)
          · have q5 := qltF q5 C 6
            repeat refine kX_one rfl ?_
            refine kX_ret (i := .ireturn) (len := 1) rfl (Or.inr rfl) rfl (⟨_, rfl, mg_agree L xs d' σ n b R S C kl _ _ _ _ hI (fun z => absurd ⟨hx, hy⟩ z) (fun _ z => absurd ⟨k, by omega, rfl⟩ z) (fun _ _ _ => ⟨rfl, hb⟩) (fun r a k' g1 g2 g3 g4 g5 g6 g7 => by omega)⟩)
        · have q4 := qleF q4 k 6
          exact k34 ⟨hx, hy⟩ (fun ⟨j, j1, j2⟩ => by
            have := nI_inj j2
            omega)
    · exact k22 (fun z => isB_ne.mpr z.2 (qneF q2))
