/-! alike: of, about -/
set_option maxRecDepth 100000 in
set_option maxHeartbeats 4000000 in
theorem mg_of (L : Nat) (xs : Nat → Int32) (d : Nat) (σ : kS) (n b : Nat) (w y z : Int32) (Q : Option Value → kS → Prop) (h1 : mTb σ n b) (hU : ¬ (isN z n ∧ (w = nI 7 ∨ isN y n)) → Q (some (.int (-1))) σ) (hO : isN z n ∧ (w = nI 7 ∨ isN y n) → ¬ ((w = nI 6 ∨ w = nI 7 ∨ w = nI 8) ∧ mAG σ n (fN z)) → Q (some (.int (-2))) σ) (hC : isN z n ∧ (w = nI 7 ∨ isN y n) → (w = nI 6 ∨ w = nI 7 ∨ w = nI 8) ∧ mAG σ n (fN z) → kXM kT L xs (d + 4) 157 [.ref 232, .int w, .int (cit (w = nI 7) z y), .int (cit (w = nI 7) (-1) z)] σ (fun r τ => ∃ z, r = some (.int z) ∧ Q (some (.int z)) τ)) : kXM kT L xs (d + 5) 159 [.ref 232, .int w, .int y, .int z] σ Q := by
  have hn := h1.1
  have key : (w = nI 7 ∨ isN y n) → kX kT L xs (d + 5) 159 14 [(0, .ref 232), (1, .int w), (2, .int y), (3, .int z)] [] σ Q := by
    intro hy
    repeat refine kX_one rfl ?_
    refine kX_cal (mr_isTerm L xs (d + 3) σ n z h1.2.2.2.1 (by omega)) rfl (Or.inr rfl) rfl rfl rfl (fun r1 σ1 q1 => ?_)
    obtain ⟨rfl, rfl⟩ := q1
    repeat refine kX_one rfl ?_
    refine kX_if (fun q => ?_) (fun q => ?_)
    · have hz := isB_ne.mp (qne q)
      have hA : isN z n ∧ (w = nI 7 ∨ isN y n) := ⟨hz, hy⟩
      obtain ⟨v, hv, rfl⟩ := hz
      rw [fN_nI (by omega)] at hO hC
      repeat refine kX_one rfl ?_
      refine kX_cal (mr_in L xs (d + 4) σ _ _ _) rfl (Or.inr rfl) rfl rfl rfl (fun r1 σ1 q1 => ?_)
      obtain ⟨rfl, rfl⟩ := q1
      rw [isB_dec]
      repeat refine kX_one rfl ?_
      refine kX_if (fun q => ?_) (fun q => ?_)
      · have q := qeq q
        repeat refine kX_one rfl ?_
        refine kX_ret (i := .ireturn) (len := 1) rfl (Or.inr rfl) rfl (hO hA (fun z => isB_ne.mpr (by rcases z.1 with rfl | rfl | rfl <;> decide) q))
      · obtain ⟨k, k1, k2, rfl⟩ := in_R (lo := 6) (hi := 8) (by omega) (by omega) (isB_ne.mp (qeqF q)).1 (isB_ne.mp (qeqF q)).2
        have hk : nI k = nI 6 ∨ nI k = nI 7 ∨ nI k = nI 8 := by
          rcases (show k = 6 ∨ k = 7 ∨ k = 8 by omega) with rfl | rfl | rfl <;> simp
        have fin : mAG σ n v → kX kT L xs (d + 5) 159 69 [(0, .ref 232), (1, .int (nI k)), (2, .int y), (3, .int (nI v))] [] σ Q := by
          intro hG
          have hC := hC hA ⟨hk, hG⟩
          repeat refine kX_one rfl ?_
          refine kX_if (fun q => ?_) (fun q => ?_)
          · have q : nI k ≠ nI 7 := qne q
            rw [cit_F q, cit_F q] at hC
            repeat refine kX_one rfl ?_
            refine kX_cal hC rfl (Or.inr rfl) rfl rfl rfl (fun r1 σ1 q1 => ?_)
            obtain ⟨z, rfl, q1⟩ := q1
            repeat refine kX_one rfl ?_
            refine kX_ret (i := .ireturn) (len := 1) rfl (Or.inr rfl) rfl (q1)
          · have q : nI k = nI 7 := qneF q
            rw [cit_T q, cit_T q] at hC
            repeat refine kX_one rfl ?_
            refine kX_cal hC rfl (Or.inr rfl) rfl rfl rfl (fun r1 σ1 q1 => ?_)
            obtain ⟨z, rfl, q1⟩ := q1
            repeat refine kX_one rfl ?_
            refine kX_ret (i := .ireturn) (len := 1) rfl (Or.inr rfl) rfl (q1)
        repeat refine kX_one rfl ?_
        refine kX_ialdN rfl rfl (by decide) (v) (by first | rfl | decide) (by omega) ?_
        repeat refine kX_one rfl ?_
        refine kX_if (fun q => ?_) (fun q => ?_)
        · exact fin ⟨hv, Or.inl (qeq q)⟩
        · have q0 : σ 233 v ≠ nI 0 := qeqF q
          repeat refine kX_one rfl ?_
          refine kX_ialdN rfl rfl (by decide) (v) (by first | rfl | decide) (by omega) ?_
          repeat refine kX_one rfl ?_
          refine kX_if (fun q => ?_) (fun q => ?_)
          · have q3 : σ 233 v ≠ nI 3 := qne q
            repeat refine kX_one rfl ?_
            refine kX_ret (i := .ireturn) (len := 1) rfl (Or.inr rfl) rfl (hO hA (fun z => z.2.2.elim q0 (fun z => q3 z.1)))
          · have q3 : σ 233 v = nI 3 := qneF q
            repeat refine kX_one rfl ?_
            refine kX_ialdN rfl rfl (by decide) (v) (by first | rfl | decide) (by omega) ?_
            repeat refine kX_one rfl ?_
            refine kX_if (fun q => ?_) (fun q => ?_)
            · exact fin ⟨hv, Or.inr ⟨q3, qeq q⟩⟩
            · have q4 : σ 240 v ≠ nI 0 := qeqF q
              repeat refine kX_one rfl ?_
              refine kX_ret (i := .ireturn) (len := 1) rfl (Or.inr rfl) rfl (hO hA (fun z => z.2.2.elim q0 (fun z => q4 z.2)))
    · have q := qneF q
      repeat refine kX_one rfl ?_
      refine kX_ret (i := .ireturn) (len := 1) rfl (Or.inr rfl) rfl (hU (fun z => isB_ne.mpr z.1 q))
  unfold kXM
  repeat refine kX_one rfl ?_
  refine kX_if (fun q => ?_) (fun q => ?_)
  · exact key (Or.inl (qeq q))
  · have q7 : w ≠ nI 7 := qeqF q
    repeat refine kX_one rfl ?_
    refine kX_cal (mr_isTerm L xs (d + 3) σ n y h1.2.2.2.1 (by omega)) rfl (Or.inr rfl) rfl rfl rfl (fun r1 σ1 q1 => ?_)
    obtain ⟨rfl, rfl⟩ := q1
    repeat refine kX_one rfl ?_
    refine kX_if (fun q => ?_) (fun q => ?_)
    · have q := qeq q
      repeat refine kX_one rfl ?_
      refine kX_ret (i := .ireturn) (len := 1) rfl (Or.inr rfl) rfl (hU (fun z => z.2.elim q7 (fun z => isB_ne.mpr z q)))
    · exact key (Or.inr (isB_ne.mp (qeqF q)))
set_option maxRecDepth 100000 in
set_option maxHeartbeats 4000000 in
theorem kg_of (L : Nat) (xs : Nat → Int32) (d : Nat) (σ : kS) (n : Nat) (w y z : Int32) (Q : Option Value → kS → Prop) (hT : cT σ n) (hA : aT σ n) (hU : ¬ (isN z n ∧ (w = nI 7 ∨ isN y n)) → Q (some (.int (-1))) σ) (hO : isN z n ∧ (w = nI 7 ∨ isN y n) → ¬ ((w = nI 6 ∨ w = nI 7 ∨ w = nI 8) ∧ mAG σ n (fN z)) → Q (some (.int (-2))) σ) (hC : isN z n ∧ (w = nI 7 ∨ isN y n) → (w = nI 6 ∨ w = nI 7 ∨ w = nI 8) ∧ mAG σ n (fN z) → kXM kT L xs (d + 5) 142 [.ref 0, .int w, .int (cit (w = nI 7) z y), .int (cit (w = nI 7) (-1) z)] σ (fun r τ => ∃ z, r = some (.int z) ∧ Q (some (.int z)) τ)) : kXM kT L xs (d + 6) 112 [.ref 0, .int w, .int y, .int z] σ Q := by
  have hn := hT.1
  unfold kXM
  have k28 : ¬ (isN z n ∧ (w = nI 7 ∨ isN y n)) → kX kT L xs (d + 6) 112 28 (lv_args 0 [.ref 0, .int w, .int y, .int z]) [] σ Q := by
    intro q
    repeat refine kX_one rfl ?_
    refine kX_ret (i := .ireturn) (len := 1) rfl (Or.inr rfl) rfl (hU q)
  have k30 : isN z n ∧ (w = nI 7 ∨ isN y n) → kX kT L xs (d + 6) 112 30 (lv_args 0 [.ref 0, .int w, .int y, .int z]) [] σ Q := by
    intro hAA
    have hO := hO hAA
    have hC := hC hAA
    obtain ⟨⟨v, hv, rfl⟩, -⟩ := hAA
    rw [fN_nI (by omega)] at hO hC
    have e := hA.1 v hv
    have hag : (σ 2 v = 0 ∨ (σ 2 v = 3 ∧ σ 11 v = 0)) ↔ mAG σ n v := by
      unfold mAG
      rw [e.1]
      constructor
      · rintro (q | ⟨q, q2⟩)
        · exact ⟨hv, Or.inl q⟩
        · exact ⟨hv, Or.inr ⟨q, (e.2.2.2.2.2.2 q).2.1.symm.trans q2⟩⟩
      · rintro ⟨-, q | ⟨q, q2⟩⟩
        · exact Or.inl q
        · exact Or.inr ⟨q, (e.2.2.2.2.2.2 q).2.1.trans q2⟩
    have k59 : ¬ ((w = nI 6 ∨ w = nI 7 ∨ w = nI 8) ∧ mAG σ n v) → kX kT L xs (d + 6) 112 59 (lv_args 0 [.ref 0, .int w, .int y, .int (nI v)]) [] σ Q := by
      intro q
      repeat refine kX_one rfl ?_
      refine kX_ret (i := .ireturn) (len := 1) rfl (Or.inr rfl) rfl (hO q)
    have k48 : (w = nI 6 ∨ w = nI 7 ∨ w = nI 8) → kX kT L xs (d + 6) 112 48 (lv_args 0 [.ref 0, .int w, .int y, .int (nI v)]) [] σ Q := by
      intro hw
      iterate 3 (refine kX_one rfl ?_)
      refine kX_cal (mc_mayBeAgent L xs (d + 2) σ n v hn hT.2.1 hv) rfl (Or.inr rfl) rfl rfl rfl (fun r1 σ1 q1 => ?_)
      obtain ⟨rfl, rfl⟩ := q1
      repeat refine kX_one rfl ?_
      refine kX_if (fun q => ?_) (fun q => ?_)
      · have hC := hC ⟨hw, hag.mp (isB_ne.mp (qne q))⟩
        iterate 2 (refine kX_one rfl ?_)
        repeat refine kX_one rfl ?_
        refine kX_if (fun q2 => ?_) (fun q2 => ?_)
        · have q2 : w ≠ nI 7 := qne q2
          rw [cit_F q2, cit_F q2] at hC
          iterate 4 (refine kX_one rfl ?_)
          refine kX_cal hC rfl (Or.inr rfl) rfl rfl rfl (fun r1 σ1 q1 => ?_)
          obtain ⟨v, rfl, hA⟩ := q1
          refine kX_ret (i := .ireturn) (len := 1) rfl (Or.inr rfl) rfl (hA)
        · have q2 : w = nI 7 := qneF q2
          rw [cit_T q2, cit_T q2] at hC
          subst q2
          iterate 4 (refine kX_one rfl ?_)
          refine kX_cal hC rfl (Or.inr rfl) rfl rfl rfl (fun r1 σ1 q1 => ?_)
          obtain ⟨v, rfl, hA⟩ := q1
          iterate 1 (refine kX_one rfl ?_)
          refine kX_ret (i := .ireturn) (len := 1) rfl (Or.inr rfl) rfl (hA)
      · exact k59 (fun z => isB_ne.mpr (hag.mpr z.2) (qneF q))
    repeat refine kX_one rfl ?_
    refine kX_if (fun q => ?_) (fun q => ?_)
    · exact k48 (Or.inl (qeq q))
    · have q6 : w ≠ nI 6 := qeqF q
      repeat refine kX_one rfl ?_
      refine kX_if (fun q => ?_) (fun q => ?_)
      · exact k48 (Or.inr (Or.inl (qeq q)))
      · have q7 : w ≠ nI 7 := qeqF q
        repeat refine kX_one rfl ?_
        refine kX_if (fun q => ?_) (fun q => ?_)
        · have q8 : w ≠ nI 8 := qne q
          exact k59 (fun z => z.1.elim q6 (fun z => z.elim q7 q8))
        · exact k48 (Or.inr (Or.inr (qneF q)))
  iterate 3 (refine kX_one rfl ?_)
  refine kX_cal (mc_has L xs (d + 4) σ n z hn hT.2.1) rfl (Or.inr rfl) rfl rfl rfl (fun r1 σ1 q1 => ?_)
  obtain ⟨rfl, rfl⟩ := q1
  repeat refine kX_one rfl ?_
  refine kX_if (fun q => ?_) (fun q => ?_)
  · exact k28 (fun z => isB_ne.mpr z.1 (qeq q))
  · have hz := isB_ne.mp (qeqF q)
    repeat refine kX_one rfl ?_
    refine kX_if (fun q => ?_) (fun q => ?_)
    · exact k30 ⟨hz, Or.inl (qeq q)⟩
    · have q7 : w ≠ nI 7 := qeqF q
      iterate 3 (refine kX_one rfl ?_)
      refine kX_cal (mc_has L xs (d + 4) σ n y hn hT.2.1) rfl (Or.inr rfl) rfl rfl rfl (fun r1 σ1 q1 => ?_)
      obtain ⟨rfl, rfl⟩ := q1
      repeat refine kX_one rfl ?_
      refine kX_if (fun q2 => ?_) (fun q2 => ?_)
      · exact k30 ⟨hz, Or.inr (isB_ne.mp (qne q2))⟩
      · exact k28 (fun z => z.2.elim q7 (fun z => isB_ne.mpr z (qneF q2)))
theorem mAG_eq {σ τ : kS} {n y : Nat} (e : ∀ c, 232 ≤ c → τ c = σ c) : mAG τ n y ↔ mAG σ n y := by
  unfold mAG
  rw [e 233 (by decide), e 240 (by decide)]
theorem bo_of (L : Nat) (xs : Nat → Int32) (d d' m : Nat) (σ : kS) (w y z : Int32) (h : bJ m σ) : kXM kT L xs (d + 6) 112 [.ref 0, .int w, .int y, .int z] σ (fun r τ => ∃ z', r = some (.int z') ∧ kXM kT L xs (d' + 5) 159 [.ref 232, .int w, .int y, .int z] τ (fun r' ω => r' = some (.int z') ∧ bJ m ω)) := by
  have hb := h
  obtain ⟨n, b, R, S, C, kl, h⟩ := h
  have hn := h.1.1.1
  refine kg_of L xs d σ n w y z _ h.2.1.1 h.2.2.1 (fun q => ⟨_, rfl, ?_⟩) (fun q q2 => ⟨_, rfl, ?_⟩) (fun q q2 => ?_)
  · exact mg_of L xs d' σ n b w y z _ h.1.1 (fun _ => ⟨rfl, hb⟩) (fun z => absurd z q) (fun z => absurd z q)
  · exact mg_of L xs d' σ n b w y z _ h.1.1 (fun z => absurd q z) (fun _ _ => ⟨rfl, hb⟩) (fun _ z => absurd z q2)
  · have hq := q
    obtain ⟨⟨v, hv, rfl⟩, hy⟩ := q
    have key : ∃ k x0 y0, 3 < k ∧ w = nI k ∧ tNw k (cit (w = nI 7) (nI v) y) (cit (w = nI 7) (-1) (nI v)) x0 y0 n ∧ (k = 6 ∨ k = 8 → mAG σ n y0) ∧ (k = 7 → mAG σ n x0) := by
      have hG := q2.2
      rw [fN_nI (by omega)] at hG
      by_cases q7 : w = nI 7
      · rw [cit_T q7, cit_T q7]
        exact ⟨7, v, 0, by decide, q7, Or.inr (Or.inr ⟨Or.inl rfl, rfl, rfl, hv⟩), by omega, fun _ => hG⟩
      · rw [cit_F q7, cit_F q7]
        obtain ⟨u, hu, rfl⟩ := hy.elim (fun z => absurd z q7) id
        rcases q2.1 with z | z | z
        · exact ⟨6, u, v, by decide, z, Or.inr (Or.inl ⟨by omega, rfl, rfl, hu, hv⟩), fun _ => hG, by omega⟩
        · exact absurd z q7
        · exact ⟨8, u, v, by decide, z, Or.inr (Or.inl ⟨by omega, rfl, rfl, hu, hv⟩), fun _ => hG, by omega⟩
    obtain ⟨k, x0, y0, k3, rfl, hw, k6, k7⟩ := key
    refine kXM_mono (bo_comp L xs d d' σ n b R S C m k x0 y0 kl _ _ h k3 hw k6 k7) (fun r τ q => ?_)
    obtain ⟨z, rfl, t1, t2, t3⟩ := q
    refine ⟨z, rfl, z, rfl, mg_of L xs d' τ n b _ _ _ _ t1.1 (fun q => absurd hq q) (fun _ q => absurd ⟨q2.1, (mAG_eq t2).mpr q2.2⟩ q) (fun _ _ => kXM_mono t3 (fun r ω q => ⟨z, q.1, rfl, q.2⟩))⟩
/-- calls that only tell -/
theorem bo_same {L : Nat} {xs : Nat → Int32} {d d' y y' m : Nat} {as as' : List Value} {σ : kS} {v : Int32} (h : bJ m σ) (h1 : kXM kT L xs d y as σ (fun r σ' => r = some (.int v) ∧ σ = σ')) (h2 : kXM kT L xs d' y' as' σ (fun r σ' => r = some (.int v) ∧ σ = σ')) : kXM kT L xs d y as σ (fun r τ => ∃ z, r = some (.int z) ∧ kXM kT L xs d' y' as' τ (fun r' ω => r' = some (.int z) ∧ bJ m ω)) := by
  refine kXM_mono h1 (fun r τ q => ?_)
  obtain ⟨rfl, rfl⟩ := q
  refine ⟨v, rfl, kXM_mono h2 (fun r ω q => ?_)⟩
  obtain ⟨rfl, rfl⟩ := q
  exact ⟨rfl, h⟩
noncomputable def abV (σ : kS) (t : Nat) : Nat → Int32
  | 0 => σ 233 t
  | 1 => if σ 234 t < 0 then -6 else σ 234 t
  | 2 => if σ 235 t < 0 then -6 else σ 235 t
  | 3 => σ 236 t
  | 4 => isB (σ 237 t ≠ 0)
  | 5 => cit (σ 233 t = nI 0) (isB (σ 238 t ≠ 0)) (-6)
  | 6 => cit (σ 233 t = nI 3) (σ 239 t) (-6)
  | 7 => cit (σ 233 t = nI 3) (σ 240 t) (-6)
  | _ => cit (σ 233 t = nI 3) (σ 241 t) (-6)
noncomputable def abA (σ : kS) (n : Nat) (x w : Int32) : Int32 := cit (isN x n) (cit (isN w 9) (abV σ (fN x) (fN w)) (-2)) (-1)
theorem abA_t {σ : kS} {n t k : Nat} (ht : t < n) (hn : n ≤ 200) (hk : k < 9) : abA σ n (nI t) (nI k) = abV σ t k := by
  unfold abA
  rw [cit_T ⟨t, ht, rfl⟩, cit_T ⟨k, hk, rfl⟩, fN_nI (by omega), fN_nI (by omega)]
