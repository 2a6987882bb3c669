/-! the reference: receives, all of it -/
theorem mFr_fv (σ : kS) (n : Nat) (W ST : Nat → Int32) (m : Int32) : mFr σ (fvS σ W ST m) n := by
  refine ⟨fun c hc => ?_, fun j hj => ?_, fun u hu => ⟨rfl, rfl, rfl⟩⟩
  · simp only [rowC, List.mem_cons, List.not_mem_nil, or_false, not_or] at hc
    simp [fvS, va_up, hc]
  · simp only [rowJ, List.mem_cons, List.not_mem_nil, or_false, not_or] at hj
    show upd (σ 232) 22 m j = _
    exact pk_un (by omega)
set_option maxRecDepth 100000 in
set_option maxHeartbeats 4000000 in
theorem mr_rc_go (L : Nat) (xs : Nat → Int32) (d : Nat) (σ : kS) (n R S C N i s r dn t : Nat) (kl op : List Nat) (hB : mBs σ n R S C kl) (hS : mSs σ n R S N) (hi : i < N) (hrow : rcR σ n) (hd : rcD σ σ S i) (hv : ∀ u k, u < S → k < 6 → σ 265 (6 * u + k) = stV σ i (6 * u + k)) (hs : s < S) (r1 : r < R) (r2 : σ 255 s = nI r) (r3 : stD σ i s = nI dn) (hdn : dn < fN (σ 247 r)) (hse : σ 249 (6 * r + dn) = 0) (ht : t < n) (het : σ 248 (6 * r + dn) = nI t) (my : Int64) (W ST O : Nat → Int32) (m : Int32)
    (ho : lst O op) (hop : ∀ u, u ∈ op ↔ u ∈ tvs (σ 233) (σ 234) (σ 235) t ∧ stV σ i (6 * s + fN (σ 241 u)) < 0) (h6 : op.length ≤ 6) (hN : opN σ op) (hz : my = 0 ∨ ∀ u ∈ op, ∃ z, z < n ∧ ofs σ u z) :
    kX kT L xs (d + 9) 217 107 [(0, .ref 232), (1, .int (nI i)), (2, .int (nI s)), (3, .int (nI t)), (4, .int (nI op.length)), (5, .long my)] [] (va_up (fvS σ W ST m) 292 O) (fun r σ' => rcP σ σ' n R S C N i r) := by
  obtain ⟨b, l, e1, e2, e3, e4⟩ := hrow
  have hR := hB.1
  have h200 : ∀ u ∈ op, u < 200 := fun u hu => by
    obtain ⟨p, hp, rfl⟩ := List.mem_iff_getElem.mp hu
    exact (hN.1 p hp).1
  have hF : ∀ w, mSf σ (va_up (va_up (fvS σ W ST m) 292 O) 232 (upd (fvS σ W ST m 232) 70 w)) n := fun w => mSf_trans (mSf_fr (mFr_fv σ n W ST m)) (mSf_trans (mSf_up (c := 292) (by decide)) (mSf_o (σ := va_up (fvS σ W ST m) 292 O) (by decide)))
  have hRw : ∀ w, rcR (va_up (va_up (fvS σ W ST m) 292 O) 232 (upd (fvS σ W ST m 232) 70 w)) n := fun w => ⟨b, l, e1, e2, e3, e4⟩
  have hSs : ∀ w, mSs (va_up (va_up (fvS σ W ST m) 292 O) 232 (upd (fvS σ W ST m 232) 70 w)) n R S N := fun w => mSs_sf e2 hR (hF w) rfl rfl rfl rfl rfl hS
  have hst : ∀ w, ∀ j, j < N → (∀ u, u < S → stD (va_up (va_up (fvS σ W ST m) 292 O) 232 (upd (fvS σ W ST m 232) 70 w)) j u = stD σ j u) ∧ ∀ u k, u < S → k < 6 → stV (va_up (va_up (fvS σ W ST m) 292 O) 232 (upd (fvS σ W ST m 232) 70 w)) j (6 * u + k) = stV σ j (6 * u + k) := fun w j hj => ⟨fun _ _ => rfl, fun _ _ _ _ => rfl⟩
  have k154 : my ≠ 0 → ∀ w, kX kT L xs (d + 9) 217 154 [(0, .ref 232), (1, .int (nI i)), (2, .int (nI s)), (3, .int (nI t)), (4, .int (nI op.length)), (5, .long my)] [] (va_up (va_up (fvS σ W ST m) 292 O) 232 (upd (fvS σ W ST m 232) 70 w)) (fun r σ' => rcP σ σ' n R S C N i r) := by
    intro hmy w
    have hz2 : ∀ u ∈ op, ∃ z, z < n ∧ ofs σ u z := hz.elim (fun q => absurd q hmy) id
    have a1 := hF w
    have a2 := hRw w
    have a3 := hSs w
    have a4 := hst w
    have a5 : mTb (va_up (va_up (fvS σ W ST m) 292 O) 232 (upd (fvS σ W ST m 232) 70 w)) n b := e2
    have a6 : lst ((va_up (va_up (fvS σ W ST m) 292 O) 232 (upd (fvS σ W ST m 232) 70 w)) 292) op := ho
    have a7 : ∀ u, (va_up (va_up (fvS σ W ST m) 292 O) 232 (upd (fvS σ W ST m 232) 70 w)) 264 u = σ 264 u := fun _ => rfl
    have a8 : ∀ u, (va_up (va_up (fvS σ W ST m) 292 O) 232 (upd (fvS σ W ST m 232) 70 w)) 265 u = σ 265 u := fun _ => rfl
    generalize va_up (va_up (fvS σ W ST m) 292 O) 232 (upd (fvS σ W ST m 232) 70 w) = ρ at *
    have hofs : ∀ u z, z < n → (ofs ρ u z ↔ ofs σ u z) := fun u z hz' => ofs_sf e2 a1 hz'
    iterate 2 (refine kX_one rfl ?_)
    have := mr_rc_first L xs (d + 6) ρ n b op a5 h6 a6 h200 (fun u hu => by
      obtain ⟨z, z1, z2⟩ := hz2 u hu
      exact ⟨z, z1, (hofs u z z1).mpr z2⟩) (nI i) (nI s) (nI t) my (fun r σ' => rcP σ σ' n R S C N i r) (fun CH c hC => ?_) (0, ρ 293, fun _ => 0) ⟨Nat.zero_le _, fun p _ _ hp => absurd hp (Nat.not_lt_zero p)⟩
    · refine kX_to _ _ rfl rfl rfl ?_ this
      funext c; unfold  va_up; repeat' split
      all_goals first | rfl | omega | (subst_vars; rfl) | (funext j; unfold upd; repeat' split; all_goals first | rfl | omega | (subst_vars; rfl))
    · iterate 2 (refine kX_one rfl ?_)
      obtain ⟨b', l', f1, f2, f3, f4⟩ := a2
      have := mr_rc_main L xs d σ n b R S C N i s r dn t kl op e2 hB hS hi hs r1 r2 r3 hdn hse ht het hop h6 hN hz2 my (va_up ρ 293 CH, c) ⟨⟨mSf_trans a1 (mSf_up (c := 293) (by decide)), ⟨N, Nat.le_refl _, a3⟩, a4, a6⟩, ⟨b', l', f1, f2, f3, f4⟩, fun u hu => (a7 u).trans (hd u hu), fun u k hu hk _ => (a8 _).trans (hv u k hu hk), fun p hp x1 x2 => by
        obtain ⟨y1, y2, y3⟩ := hC p hp x1 x2
        exact ⟨y1, y2, (hofs _ _ y2).mp y3⟩⟩
      exact kX_lv _ rfl rfl rfl this
  iterate 7 (refine kX_one rfl ?_)
  repeat refine kX_one rfl ?_
  refine kX_if (fun q => ?_) (fun q => ?_)
  · iterate 10 (refine kX_one rfl ?_)
    repeat refine kX_one rfl ?_
    refine kX_if (fun q2 => ?_) (fun q2 => ?_)
    · have q2 := qne q2
      exact k154 (fun e => q2 (by rw [e]; rfl)) (fvS σ W ST m 232 70 + my.toInt32)
    · repeat refine kX_one rfl ?_
      refine kX_ret (i := .ireturn) (len := 1) rfl (Or.inr rfl) rfl ⟨N, Nat.le_refl _, Or.inl rfl, hF _, ⟨b, e2⟩, hSs _, hst _, fun _ => ⟨hRw _, hd, hv⟩⟩
  · repeat refine kX_one rfl ?_
    refine kX_ret (i := .ireturn) (len := 1) rfl (Or.inr rfl) rfl ⟨N, Nat.le_refl _, Or.inr (Or.inl rfl), hF _, ⟨b, e2⟩, hSs _, hst _, fun e => ?_⟩
    exact absurd (Value.int.inj (Option.some.inj e)) (by decide)
set_option maxRecDepth 100000 in
set_option maxHeartbeats 4000000 in
theorem mr_receives (L : Nat) (xs : Nat → Int32) (d : Nat) (σ : kS) (n R S C N i s r dn t : Nat) (kl : List Nat) (hB : mBs σ n R S C kl) (hS : mSs σ n R S N) (hi : i < N) (hrow : rcR σ n) (hd : rcD σ σ S i) (hv : ∀ u k, u < S → k < 6 → σ 265 (6 * u + k) = stV σ i (6 * u + k)) (hs : s < S) (r1 : r < R) (r2 : σ 255 s = nI r) (r3 : stD σ i s = nI dn) (hdn : dn < fN (σ 247 r)) (hse : σ 249 (6 * r + dn) = 0) (ht : t < n) (het : σ 248 (6 * r + dn) = nI t) :
    kXM kT L xs (d + 9) 217 [.ref 232, .int (nI i), .int (nI s), .int (nI t)] σ (fun r σ' => rcP σ σ' n R S C N i r) := by
  have hrow0 := hrow
  obtain ⟨b, l, e1, e2, e3, e4⟩ := hrow
  have hn := e2.1
  have hS4 := hB.2.1.1
  have hR4 := hB.1.1
  obtain ⟨t', t1, t2, t3, -⟩ := hB.1.2.2.2.2.2 r dn r1 hdn
  obtain rfl : t = t' := nI_inj (het.symm.trans t2)
  have hvar := fun u hu => mRo_var (u := u) e2 hB.1 r1 ht t3 hu
  unfold kXM
  iterate 2 (refine kX_one rfl ?_)
  refine kX_cal (mr_findVariables L xs (d + 7) σ n b t e2 ht) rfl (Or.inr rfl) rfl rfl rfl (fun r1' σ1 q1 => ?_)
  obtain ⟨rfl, W, ST, rfl, hl, h24⟩ := q1
  have hmem : ∀ u, u ∈ ddl [] (tvs (σ 233) (σ 234) (σ 235) t) ↔ u ∈ tvs (σ 233) (σ 234) (σ 235) t := fun u => by
    rw [ddl_mem]
    simp
  have hnd := ddl_nd (tvs (σ 233) (σ 234) (σ 235) t) [] List.Pairwise.nil
  generalize ddl [] (tvs (σ 233) (σ 234) (σ 235) t) = vs at *
  have hinj : ∀ u ∈ vs, ∀ v ∈ vs, u ≠ v → σ 241 u ≠ σ 241 v := fun u hu v hv' huv e => by
    obtain ⟨k, so, u1, k6, kv, vv, kk, -⟩ := hvar u ((hmem u).mp hu)
    obtain ⟨k', so', u1', k6', kv', vv', kk', -⟩ := hvar v ((hmem v).mp hv')
    obtain rfl : k = k' := nI_inj (by rw [← kk, ← kk', e])
    exact huv (nI_inj (vv.symm.trans vv'))
  have hnum : ∀ u ∈ vs, u < 200 ∧ ∃ k, k < 6 ∧ σ 241 u = nI k := fun u hu => by
    obtain ⟨k, so, u1, k6, kv, vv, kk, -⟩ := hvar u ((hmem u).mp hu)
    exact ⟨by omega, k, k6, kk⟩
  iterate 6 (refine kX_one rfl ?_)
  have := mr_rc_open L xs (d + 6) (fvS σ W ST (nI vs.length)) n b s vs e2 (by omega) rfl hl h24 hnd hnum hinj (nI i) (nI t) (fun r σ' => rcP σ σ' n R S C N i r) (fun op O my hI h6 => ?_) (0, [], σ 292, 1) ⟨Nat.zero_le _, lst_nil _, fun u => by simp, List.Pairwise.nil, Or.inr (fun u hu => (by cases hu))⟩
  · refine kX_to _ _ rfl rfl rfl ?_ this
    funext c; unfold fvS va_up; repeat' split
    all_goals first | rfl | omega | (subst_vars; rfl) | (funext j; unfold upd; repeat' split; all_goals first | rfl | omega | (subst_vars; rfl))
  · obtain ⟨o1, o2, o3, o4⟩ := hI
    have hop : ∀ u, u ∈ op ↔ u ∈ tvs (σ 233) (σ 234) (σ 235) t ∧ stV σ i (6 * s + fN (σ 241 u)) < 0 := fun u => by
      rw [o2 u, List.take_length, hmem u]
      refine and_congr_right (fun hu => ?_)
      obtain ⟨k, so, u1, k6, kv, vv, kk, -⟩ := hvar u hu
      show σ 265 (6 * s + fN (σ 241 u)) < 0 ↔ _
      rw [kk, fN_nI (by omega), hv s k hs k6]
    have hopv : ∀ u ∈ op, u ∈ vs := fun u hu => (hmem u).mpr ((hop u).mp hu).1
    have hN : opN σ op := ⟨fun p hp => hnum _ (hopv _ (List.getElem_mem hp)), fun p q hp hq hpq => hinj _ (hopv _ (List.getElem_mem hp)) _ (hopv _ (List.getElem_mem hq)) (fun e => by
      rcases Nat.lt_or_gt_of_ne hpq with hh | hh
      · exact List.pairwise_iff_getElem.mp o3 p q hp hq hh e
      · exact List.pairwise_iff_getElem.mp o3 q p hq hp hh e.symm)⟩
    exact mr_rc_go L xs d σ n R S C N i s r dn t kl op hB hS hi hrow0 hd hv hs r1 r2 r3 hdn hse ht het my W ST O (nI vs.length) o1 hop h6 hN o4
