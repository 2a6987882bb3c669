/-! the reference: what is asked from outside about TERMS and ROLES -/
theorem in_R {x : Int32} {lo hi : Nat} (hh : hi < 1000) (hl : lo < 1000) (h1 : ¬ x.toInt64 < (nI lo).toInt64) (h2 : ¬ (nI hi).toInt64 < x.toInt64) : ∃ k, lo ≤ k ∧ k ≤ hi ∧ x = nI k := by
  rw [i64_lt] at h1 h2
  rw [Int32.lt_iff_toInt_lt, nI_toInt (by omega)] at h1 h2
  have hx : ¬ x < 0 := fun h => by
    rw [Int32.lt_iff_toInt_lt] at h
    have : (0 : Int32).toInt = 0 := rfl
    omega
  obtain ⟨j, hj, rfl⟩ := nI_of hx
  rw [nI_toInt hj] at h1 h2
  exact ⟨j, by omega, by omega, rfl⟩
theorem kXM_mono {T : List jC} {L : Nat} {xs : Nat → Int32} {d y : Nat} {as : List Value} {σ : kS} {P Q : Option Value → kS → Prop} (h : kXM T L xs d y as σ P) (i : ∀ r σ', P r σ' → Q r σ') : kXM T L xs d y as σ Q := fun hh e => by
  obtain ⟨r, σ', h', a, b, c⟩ := h hh e
  exact ⟨r, σ', h', a, b, i r σ' c⟩
theorem mI_hon {σ : kS} {n b R S C : Nat} {kl : List Nat} {f : Nat → Int32} (h : mI σ n b R S C kl) (hr : σ 232 47 = 0) : mI (va_up σ 238 f) n b R S C kl := by
  obtain ⟨h1, h2, h3, h4, h5, h6, h7⟩ := h
  refine ⟨h1, h2, h3, h4, h5, ?_, h7⟩
  rcases h6 with h6 | ⟨h6, ds, g1, g2, g3⟩
  · exact Or.inl h6
  · exact Or.inr ⟨h6, ds, g1, g2, Or.inl hr⟩
theorem mNw_rit {σ τ : kS} {n k : Nat} {a c : Int32} (h : mNw σ τ n k a c) : τ 232 47 = 0 := by
  obtain ⟨z, g, nx, hd, jd, rfl, -⟩ := h
  rfl
theorem mAfter_new {σ τ : kS} {n b R S C k : Nat} {kl : List Nat} {a c : Int32} (h : mI σ n b R S C kl) (hN : mNw σ τ n k a c) (hk : k ≠ 3) (hk9 : k ≤ 9) : mAfter σ τ R := ⟨mLow_gr (mGr_new hN), n + 1, 200, S, C, kl, mI_new h hN hk hk9⟩
theorem mAfter_rs {σ τ : kS} {n b R S C : Nat} {kl : List Nat} (h : mI σ n b R S C kl) (hN : mRs σ τ n) : mAfter σ τ R := ⟨mLow_gr (mI_rs h hN).1, n, 200, S, C, kl, (mI_rs h hN).2⟩
set_option maxRecDepth 100000 in
set_option maxHeartbeats 4000000 in
theorem mp_agent (L : Nat) (xs : Nat → Int32) (d : Nat) (σ : kS) (n b R S C : Nat) (kl : List Nat) (v : Int32) (hv : v = 0 ∨ v = 1) (h : mI σ n b R S C kl) : kXM kT L xs (d + 4) 155 [.ref 232, .int v] σ (fun r σ' => (∃ x, r = some (.int x)) ∧ mAfter σ σ' R) := by
  refine kXM_mono (mr_agent L xs d σ n b h.1 v hv) (fun r σ' q => ?_)
  rcases q with ⟨-, rfl, rfl⟩ | ⟨-, rfl, τ, hN, rfl⟩
  · exact ⟨⟨_, rfl⟩, mAfter_same h⟩
  · exact ⟨⟨_, rfl⟩, mLow_trans (mLow_gr (mGr_new hN)) (mLow_up τ _ (by decide)), n + 1, 200, S, C, kl, mI_hon (mI_new h hN (by decide) (by decide)) (mNw_rit hN)⟩
set_option maxRecDepth 100000 in
set_option maxHeartbeats 4000000 in
theorem mp_atom (L : Nat) (xs : Nat → Int32) (d : Nat) (σ : kS) (n b R S C : Nat) (kl : List Nat) (x : Int32) (h : mI σ n b R S C kl) : kXM kT L xs (d + 4) 156 [.ref 232, .int x] σ (fun r σ' => (∃ x, r = some (.int x)) ∧ mAfter σ σ' R) := by
  have h1 := h.1
  have hn := h1.1
  unfold kXM
  repeat refine kX_one rfl ?_
  refine kX_cal (mr_in L xs (d + 3) σ _ _ _) rfl (Or.inr rfl) rfl rfl rfl (fun r1 σ1 q1 => ?_)
  obtain ⟨rfl, rfl⟩ := q1
  rw [isB_dec]
  repeat refine kX_one rfl ?_
  refine kX_if (fun q => ?_) (fun q => ?_)
  · obtain ⟨k, k1, k2, rfl⟩ := in_R (lo := 1) (hi := 2) (by omega) (by omega) (isB_ne.mp (qne q)).1 (isB_ne.mp (qne q)).2
    repeat refine kX_one rfl ?_
    refine kX_if (fun q => ?_) (fun q => ?_)
    · have q : n ≠ 200 := fun e => qne q (by rw [h1.2.2.2.1, e]; decide)
      repeat refine kX_one rfl ?_
      refine kX_cal (mr_last L xs d σ n b k (-1) (-1) 0 0 h1 (by omega) (Or.inl ⟨by omega, rfl, rfl⟩) (by omega) (by omega) (by omega) (by unfold msz; rw [if_pos (by omega)]; decide)) rfl (Or.inr rfl) rfl rfl rfl (fun r1 σ1 q1 => ?_)
      obtain ⟨rfl, hnew⟩ := q1
      repeat refine kX_one rfl ?_
      refine kX_ret (i := .ireturn) (len := 1) rfl (Or.inr rfl) rfl (⟨⟨_, rfl⟩, mAfter_new h hnew (by omega) (by omega)⟩)
    · repeat refine kX_one rfl ?_
      refine kX_ret (i := .ireturn) (len := 1) rfl (Or.inr rfl) rfl (⟨⟨_, rfl⟩, mAfter_same h⟩)
  · repeat refine kX_one rfl ?_
    refine kX_ret (i := .ireturn) (len := 1) rfl (Or.inr rfl) rfl (⟨⟨_, rfl⟩, mAfter_same h⟩)
theorem mp_old (L : Nat) (xs : Nat → Int32) (d : Nat) (σ : kS) (n b R S C k : Nat) (kl : List Nat) (a c : Int32) (x y : Nat) (h : mI σ n b R S C kl) (hk : 3 < k) (hk9 : k ≤ 9) (hw : tNw k a c x y n) (h6 : k = 6 ∨ k = 8 → mAG σ n y) (h7 : k = 7 → mAG σ n x) : kXM kT L xs (d + 4) 157 [.ref 232, .int (nI k), .int a, .int c] σ (fun r σ' => (∃ x, r = some (.int x)) ∧ mAfter σ σ' R) := by
  refine kXM_mono (mr_oldOrNew L xs d σ n b k a c x y h.1 hk hw h6 h7) (fun r σ' q => ?_)
  rcases q with ⟨-, rfl, rfl⟩ | ⟨-, ⟨t, -, -, rfl⟩, rfl⟩ | ⟨-, -, -, rfl, q⟩ | ⟨-, -, -, rfl, q⟩
  · exact ⟨⟨_, rfl⟩, mAfter_same h⟩
  · exact ⟨⟨_, rfl⟩, mAfter_same h⟩
  · rcases q with rfl | q
    · exact ⟨⟨_, rfl⟩, mAfter_same h⟩
    · exact ⟨⟨_, rfl⟩, mAfter_rs h q⟩
  · exact ⟨⟨_, rfl⟩, mAfter_new h q (by omega) hk9⟩

set_option maxRecDepth 100000 in
set_option maxHeartbeats 4000000 in
theorem mp_term (L : Nat) (xs : Nat → Int32) (d : Nat) (σ : kS) (n b R S C : Nat) (kl : List Nat) (x y z : Int32) (h : mI σ n b R S C kl) : kXM kT L xs (d + 5) 158 [.ref 232, .int x, .int y, .int z] σ (fun r σ' => (∃ x, r = some (.int x)) ∧ mAfter σ σ' R) := by
  have h1 := h.1
  have hn := h1.1
  unfold kXM
  repeat refine kX_one rfl ?_
  refine kX_cal (mr_isTerm L xs (d + 3) σ n y h1.2.2.2.1 (by omega)) rfl (Or.inr rfl) rfl rfl rfl (fun r1 σ1 q1 => ?_)
  obtain ⟨rfl, rfl⟩ := q1
  repeat refine kX_one rfl ?_
  refine kX_if (fun q => ?_) (fun q => ?_)
  · repeat refine kX_one rfl ?_
    refine kX_ret (i := .ireturn) (len := 1) rfl (Or.inr rfl) rfl (⟨⟨_, rfl⟩, mAfter_same h⟩)
  · obtain ⟨u, hu, rfl⟩ := isB_ne.mp (qeqF q)
    repeat refine kX_one rfl ?_
    refine kX_if (fun q => ?_) (fun q => ?_)
    · have q := qeq q
      subst q
      repeat refine kX_one rfl ?_
      refine kX_cal (mp_old L xs d σ n b R S C 9 kl (nI u) (-1) u 0 h (by omega) (by omega) (Or.inr (Or.inr ⟨Or.inr rfl, rfl, rfl, hu⟩)) (by omega) (by omega)) rfl (Or.inr rfl) rfl rfl rfl (fun r1 σ1 q1 => ?_)
      obtain ⟨⟨w, rfl⟩, q1⟩ := q1
      repeat refine kX_one rfl ?_
      refine kX_ret (i := .ireturn) (len := 1) rfl (Or.inr rfl) rfl (⟨⟨_, rfl⟩, q1⟩)
    · have q9 := qeqF q
      repeat refine kX_one rfl ?_
      refine kX_cal (mr_isTerm L xs (d + 3) σ n z h1.2.2.2.1 (by omega)) rfl (Or.inr rfl) rfl rfl rfl (fun r1 σ1 q1 => ?_)
      obtain ⟨rfl, rfl⟩ := q1
      repeat refine kX_one rfl ?_
      refine kX_if (fun q => ?_) (fun q => ?_)
      · obtain ⟨v, hv, rfl⟩ := isB_ne.mp (qne q)
        repeat refine kX_one rfl ?_
        refine kX_if (fun q => ?_) (fun q => ?_)
        · have q := qeq q
          subst q
          repeat refine kX_one rfl ?_
          refine kX_cal (mp_old L xs d σ n b R S C 4 kl (nI u) (nI v) u v h (by omega) (by omega) (Or.inr (Or.inl ⟨Or.inl rfl, rfl, rfl, hu, hv⟩)) (by omega) (by omega)) rfl (Or.inr rfl) rfl rfl rfl (fun r1 σ1 q1 => ?_)
          obtain ⟨⟨w, rfl⟩, q1⟩ := q1
          repeat refine kX_one rfl ?_
          refine kX_ret (i := .ireturn) (len := 1) rfl (Or.inr rfl) rfl (⟨⟨_, rfl⟩, q1⟩)
        · repeat refine kX_one rfl ?_
          refine kX_if (fun q => ?_) (fun q => ?_)
          · have q := qeq q
            subst q
            repeat refine kX_one rfl ?_
            refine kX_cal (mp_old L xs d σ n b R S C 5 kl (nI u) (nI v) u v h (by omega) (by omega) (Or.inr (Or.inl ⟨Or.inr (Or.inl rfl), rfl, rfl, hu, hv⟩)) (by omega) (by omega)) rfl (Or.inr rfl) rfl rfl rfl (fun r1 σ1 q1 => ?_)
            obtain ⟨⟨w, rfl⟩, q1⟩ := q1
            repeat refine kX_one rfl ?_
            refine kX_ret (i := .ireturn) (len := 1) rfl (Or.inr rfl) rfl (⟨⟨_, rfl⟩, q1⟩)
          · repeat refine kX_one rfl ?_
            refine kX_if (fun q => ?_) (fun q => ?_)
            · exact absurd (qeq q) q9
            · repeat refine kX_one rfl ?_
              refine kX_ret (i := .ireturn) (len := 1) rfl (Or.inr rfl) rfl (⟨⟨_, rfl⟩, mAfter_same h⟩)
      · repeat refine kX_one rfl ?_
        refine kX_ret (i := .ireturn) (len := 1) rfl (Or.inr rfl) rfl (⟨⟨_, rfl⟩, mAfter_same h⟩)
set_option maxRecDepth 100000 in
set_option maxHeartbeats 4000000 in
theorem mp_of (L : Nat) (xs : Nat → Int32) (d : Nat) (σ : kS) (n b R S C : Nat) (kl : List Nat) (x y z : Int32) (h : mI σ n b R S C kl) : kXM kT L xs (d + 5) 159 [.ref 232, .int x, .int y, .int z] σ (fun r σ' => (∃ x, r = some (.int x)) ∧ mAfter σ σ' R) := by
  have h1 := h.1
  have hn := h1.1
  have key : ∀ y, (x ≠ nI 7 → isN y n) → kX kT L xs (d + 5) 159 14 [(0, .ref 232), (1, .int x), (2, .int y), (3, .int z)] [] σ (fun r σ' => (∃ x, r = some (.int x)) ∧ mAfter σ σ' R) := by
    intro y hy
    repeat refine kX_one rfl ?_
    refine kX_cal (mr_isTerm L xs (d + 3) σ n z h1.2.2.2.1 (by omega)) rfl (Or.inr rfl) rfl rfl rfl (fun r1 σ1 q1 => ?_)
    obtain ⟨rfl, rfl⟩ := q1
    repeat refine kX_one rfl ?_
    refine kX_if (fun q => ?_) (fun q => ?_)
    · obtain ⟨v, hv, rfl⟩ := isB_ne.mp (qne q)
      repeat refine kX_one rfl ?_
      refine kX_cal (mr_in L xs (d + 4) σ _ _ _) rfl (Or.inr rfl) rfl rfl rfl (fun r1 σ1 q1 => ?_)
      obtain ⟨rfl, rfl⟩ := q1
      rw [isB_dec]
      repeat refine kX_one rfl ?_
      refine kX_if (fun q => ?_) (fun q => ?_)
      · repeat refine kX_one rfl ?_
        refine kX_ret (i := .ireturn) (len := 1) rfl (Or.inr rfl) rfl (⟨⟨_, rfl⟩, mAfter_same h⟩)
      · obtain ⟨k, k1, k2, rfl⟩ := in_R (lo := 6) (hi := 8) (by omega) (by omega) (isB_ne.mp (qeqF q)).1 (isB_ne.mp (qeqF q)).2
        have fin : mAG σ n v → kX kT L xs (d + 5) 159 69 [(0, .ref 232), (1, .int (nI k)), (2, .int y), (3, .int (nI v))] [] σ (fun r σ' => (∃ x, r = some (.int x)) ∧ mAfter σ σ' R) := by
          intro hA
          repeat refine kX_one rfl ?_
          refine kX_if (fun q => ?_) (fun q => ?_)
          · have q : nI k ≠ nI 7 := qne q
            obtain ⟨u, hu, rfl⟩ := hy q
            have q : k ≠ 7 := fun e => q (by rw [e])
            repeat refine kX_one rfl ?_
            refine kX_cal (mp_old L xs d σ n b R S C k kl (nI u) (nI v) u v h (by omega) (by omega) (Or.inr (Or.inl ⟨by omega, rfl, rfl, hu, hv⟩)) (fun _ => hA) (by omega)) rfl (Or.inr rfl) rfl rfl rfl (fun r1 σ1 q1 => ?_)
            obtain ⟨⟨w, rfl⟩, q1⟩ := q1
            repeat refine kX_one rfl ?_
            refine kX_ret (i := .ireturn) (len := 1) rfl (Or.inr rfl) rfl (⟨⟨_, rfl⟩, q1⟩)
          · obtain rfl : k = 7 := nI_inj (qneF q)
            repeat refine kX_one rfl ?_
            refine kX_cal (mp_old L xs d σ n b R S C 7 kl (nI v) (-1) v 0 h (by omega) (by omega) (Or.inr (Or.inr ⟨Or.inl rfl, rfl, rfl, hv⟩)) (by omega) (fun _ => hA)) rfl (Or.inr rfl) rfl rfl rfl (fun r1 σ1 q1 => ?_)
            obtain ⟨⟨w, rfl⟩, q1⟩ := q1
            repeat refine kX_one rfl ?_
            refine kX_ret (i := .ireturn) (len := 1) rfl (Or.inr rfl) rfl (⟨⟨_, rfl⟩, q1⟩)
        repeat refine kX_one rfl ?_
        refine kX_ialdN rfl rfl (by decide) (v) (by first | rfl | decide) (by omega) ?_
        repeat refine kX_one rfl ?_
        refine kX_if (fun q => ?_) (fun q => ?_)
        · exact fin ⟨hv, Or.inl (qeq q)⟩
        · repeat refine kX_one rfl ?_
          refine kX_ialdN rfl rfl (by decide) (v) (by first | rfl | decide) (by omega) ?_
          repeat refine kX_one rfl ?_
          refine kX_if (fun q => ?_) (fun q => ?_)
          · repeat refine kX_one rfl ?_
            refine kX_ret (i := .ireturn) (len := 1) rfl (Or.inr rfl) rfl (⟨⟨_, rfl⟩, mAfter_same h⟩)
          · have q3 : σ 233 v = nI 3 := qneF q
            repeat refine kX_one rfl ?_
            refine kX_ialdN rfl rfl (by decide) (v) (by first | rfl | decide) (by omega) ?_
            repeat refine kX_one rfl ?_
            refine kX_if (fun q => ?_) (fun q => ?_)
            · exact fin ⟨hv, Or.inr ⟨q3, qeq q⟩⟩
            · repeat refine kX_one rfl ?_
              refine kX_ret (i := .ireturn) (len := 1) rfl (Or.inr rfl) rfl (⟨⟨_, rfl⟩, mAfter_same h⟩)
    · repeat refine kX_one rfl ?_
      refine kX_ret (i := .ireturn) (len := 1) rfl (Or.inr rfl) rfl (⟨⟨_, rfl⟩, mAfter_same h⟩)
  unfold kXM
  repeat refine kX_one rfl ?_
  refine kX_if (fun q => ?_) (fun q => ?_)
  · exact key y (fun e => absurd (qeq q) e)
  · repeat refine kX_one rfl ?_
    refine kX_cal (mr_isTerm L xs (d + 3) σ n y h1.2.2.2.1 (by omega)) rfl (Or.inr rfl) rfl rfl rfl (fun r1 σ1 q1 => ?_)
    obtain ⟨rfl, rfl⟩ := q1
    repeat refine kX_one rfl ?_
    refine kX_if (fun q => ?_) (fun q => ?_)
    · repeat refine kX_one rfl ?_
      refine kX_ret (i := .ireturn) (len := 1) rfl (Or.inr rfl) rfl (⟨⟨_, rfl⟩, mAfter_same h⟩)
    · exact key y (fun _ => isB_ne.mp (qeqF q))
