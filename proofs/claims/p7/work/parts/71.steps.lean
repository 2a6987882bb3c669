/-! the reference: one EVENT more; calls of the RUN -/
/-- contents when the session s has done one EVENT more, with values V -/
def stS (σ : kS) (V : Nat → Int32) (s k dn : Nat) (bd : Int32) : kS := va_up (va_up (va_up (va_up (va_up σ 265 V) 274 (upd (σ 274) k (nI s))) 275 (upd (σ 275) k bd)) 232 (upd (σ 232) 55 (nI (k + 1)))) 264 (upd (σ 264) s (nI (dn + 1)))
theorem mRn_push {σ : kS} {V : Nat → Int32} {n b R S s r m : Nat} {ds : List Nat} {bd : Int32} (h : mTb σ n b) (hR : mRo σ n R) (hS4 : S ≤ 4) (hS : mRn σ n R S ds) (hB : mBi σ ds) (hs : s < S) (r1 : r < R) (r2 : σ 255 s = nI r) (hdn : ds.count s < fN (σ 247 r)) (hVo : ∀ j, (∀ k, k < 6 → j ≠ 6 * s + k) → V j = σ 265 j)
    (hv : ∀ k, k < 6 → (bdv σ r (ds.count s + 1) k → mVz σ n r k (V (6 * s + k))) ∧ (¬ bdv σ r (ds.count s + 1) k → V (6 * s + k) = -6)) (hm : m < 64) (hbd : bd = nI m) (hmb : ∀ p, p < 6 → (m / 2 ^ p % 2 = 1 ↔ nbv σ r (ds.count s) p)) :
    mRn (stS σ V s ds.length (ds.count s) bd) n R S (ds ++ [s]) ∧ mBi (stS σ V s ds.length (ds.count s) bd) (ds ++ [s]) := by
  have hR4 := hR.1
  have hfr : fN (σ 255 s) = r := by rw [r2]; exact fN_nI (by omega)
  obtain ⟨a1, a2, a3, a4⟩ := hS
  constructor
  · refine ⟨?_, lst_push a2 s, fun s' hs' => ?_, fun s' hs' => ?_⟩
    · show nI (ds.length + 1) = _
      rw [List.length_append]
      rfl
    · rcases List.mem_append.mp hs' with q | q
      · exact a3 s' q
      · rw [List.mem_singleton] at q
        omega
    · by_cases e : s' = s
      · subst e
        have ec : (ds ++ [s']).count s' = ds.count s' + 1 := by rw [List.count_append]; simp
        rw [ec]
        exact mSn_of (σ := stS σ V s' ds.length (ds.count s') bd) (b := b) h hR r1 r2 pk_us (by exact hdn) hv
      · have ec : (ds ++ [s]).count s' = ds.count s' := by rw [List.count_append]; simp [Ne.symm e]
        rw [ec]
        obtain ⟨r', r1', r2', -⟩ := a4 s' hs'
        obtain ⟨b1, b2, b3⟩ := mSn_iff h hR (a4 s' hs') r2' r1'
        refine mSn_of (σ := stS σ V s ds.length (ds.count s) bd) (b := b) h hR r1' r2' ?_ b2 (fun k hk => ?_)
        · show upd (σ 264) s (nI (ds.count s + 1)) s' = _
          rw [pk_un e]
          exact b1
        · have ev : V (6 * s' + k) = σ 265 (6 * s' + k) := hVo _ (fun k' hk' => by omega)
          show (bdv σ r' (ds.count s') k → mVz σ n r' k (V (6 * s' + k))) ∧ (¬ bdv σ r' (ds.count s') k → V (6 * s' + k) = -6)
          rw [ev]
          exact b3 k hk
  · intro k hk
    rw [List.length_append] at hk
    simp only [List.length_cons, List.length_nil] at hk
    by_cases e : k = ds.length
    · subst e
      have e1 : (ds ++ [s])[ds.length]'(by simp) = s := by simp
      refine ⟨m, hm, ?_, fun p hp => ?_⟩
      · show upd (σ 275) ds.length bd ds.length = _
        rw [pk_us]
        exact hbd
      · rw [e1, hmb p hp]
        have e2 : (ds ++ [s]).take ds.length = ds := by simp
        rw [e2]
        show _ ↔ nbv σ (fN (σ 255 s)) (ds.count s) p
        rw [hfr]
    · have hk' : k < ds.length := by omega
      obtain ⟨m', m1, m2, m3⟩ := hB k hk'
      have e1 : (ds ++ [s])[k]'(by simp; omega) = ds[k] := List.getElem_append_left hk'
      refine ⟨m', m1, ?_, fun p hp => ?_⟩
      · show upd (σ 275) ds.length bd k = _
        rw [pk_un e]
        exact m2
      · rw [e1, m3 p hp, List.take_append_of_le_length (by omega)]
        exact Iff.rfl
set_option maxRecDepth 100000 in
set_option maxHeartbeats 4000000 in
theorem mr_isSession (L : Nat) (xs : Nat → Int32) (d : Nat) (σ : kS) (n : Nat) (x : Int32) (h : σ 232 27 = nI n) (hn : n < 1000000) : kXM kT L xs (d + 1) 168 [.ref 232, .int x] σ (fun r σ' => r = some (.int (isB (isN x n))) ∧ σ = σ') := by
  unfold kXM
  repeat refine kX_one rfl ?_
  refine kX_cal (mr_in L xs d σ _ _ _) rfl (Or.inr rfl) rfl rfl rfl (fun r1 σ1 q1 => ?_)
  obtain ⟨rfl, rfl⟩ := q1
  refine kX_ret (i := .ireturn) (len := 1) rfl (Or.inr rfl) (jend_b rfl (bI_01 _)) ⟨?_, rfl⟩
  rw [isB_dec, ← in_N hn, ← h]
  rfl
set_option maxRecDepth 100000 in
set_option maxHeartbeats 4000000 in
theorem mr_isRole (L : Nat) (xs : Nat → Int32) (d : Nat) (σ : kS) (n : Nat) (x : Int32) (h : σ 232 13 = nI n) (hn : n < 1000000) : kXM kT L xs (d + 1) 161 [.ref 232, .int x] σ (fun r σ' => r = some (.int (isB (isN x n))) ∧ σ = σ') := by
  unfold kXM
  repeat refine kX_one rfl ?_
  refine kX_cal (mr_in L xs d σ _ _ _) rfl (Or.inr rfl) rfl rfl rfl (fun r1 σ1 q1 => ?_)
  obtain ⟨rfl, rfl⟩ := q1
  refine kX_ret (i := .ireturn) (len := 1) rfl (Or.inr rfl) (jend_b rfl (bI_01 _)) ⟨?_, rfl⟩
  rw [isB_dec, ← in_N hn, ← h]
  rfl
theorem mAfter_same {σ : kS} {n b R S C : Nat} {kl : List Nat} (h : mI σ n b R S C kl) : mAfter σ σ R := ⟨mLow_refl σ, n, b, S, C, kl, h⟩
set_option maxRecDepth 100000 in
set_option maxHeartbeats 4000000 in
theorem mr_send (L : Nat) (xs : Nat → Int32) (d : Nat) (σ : kS) (n b R S C : Nat) (kl : List Nat) (x : Int32) (h : mI σ n b R S C kl) : kXM kT L xs (d + 8) 195 [.ref 232, .int x] σ (fun r σ' => (∃ x, r = some (.int x)) ∧ mAfter σ σ' R) := by
  have h0 := h
  obtain ⟨h1, h2, h3, h4, h5, h6, h7⟩ := h
  have hS4 := h3.1
  have hR4 := h2.1
  unfold kXM
  repeat refine kX_one rfl ?_
  refine kX_cal (mr_isSession L xs (d + 6) σ S x h3.2.1 (by omega)) rfl (Or.inr rfl) rfl rfl rfl (fun r1 σ1 q1 => ?_)
  obtain ⟨rfl, rfl⟩ := q1
  repeat refine kX_one rfl ?_
  refine kX_if (fun q => ?_) (fun q => ?_)
  · obtain ⟨s, hs, rfl⟩ := isB_ne.mp (qne q)
    rcases h6 with h6 | ⟨h6, ds, g1, g2, g3⟩
    · iterate 2 (refine kX_one rfl ?_)
      refine kX_top (h6) ?_
      repeat refine kX_one rfl ?_
      refine kX_ret (i := .ireturn) (len := 1) rfl (Or.inr rfl) rfl (⟨⟨_, rfl⟩, mAfter_same h0⟩)
    · obtain ⟨r, r1, r2, r3, r4, r5, r6⟩ := g1.2.2.2 s hs
      obtain ⟨b1, b2, b3⟩ := mSn_iff h1 h2 (g1.2.2.2 s hs) r2 r1
      obtain ⟨-, ev, he6, hev⟩ := h2.2.2.1 r r1
      have hfe : fN (σ 247 r) = ev := by rw [hev]; exact fN_nI (by omega)
      iterate 2 (refine kX_one rfl ?_)
      refine kX_top (h6) ?_
      repeat refine kX_one rfl ?_
      refine kX_cal (mr_nextEvent L xs (d + 6) σ n R s r (ds.count s) h2 (by omega) r1 r2 r3 (by omega)) rfl (Or.inr rfl) rfl rfl rfl (fun r1 σ1 q1 => ?_)
      obtain ⟨rfl, rfl⟩ := q1
      by_cases hlt : ds.count s < fN (σ 247 r)
      · rw [if_pos hlt]
        repeat refine kX_one rfl ?_
        refine kX_ifF (decide_eq_false (nI_pos (by omega))) ?_
        repeat refine kX_one rfl ?_
        refine kX_baldN rfl rfl (by decide) (6 * r + ds.count s) (by first | rfl | decide) (by omega) ?_
        repeat refine kX_one rfl ?_
        refine kX_if (fun q2 => ?_) (fun q2 => ?_)
        · have q2 : σ 249 (6 * r + ds.count s) ≠ 0 := qne q2
          have hlen := mRn_len h2 hS4 g1
          have hlen' : ds.length < 24 := by
            have hp := mRn_push (V := σ 265) (m := 0) (bd := nI 0) h1 h2 hS4 g1 g2 hs r1 r2 hlt (fun _ _ => rfl) (fun k hk => by
              have e : bdv σ r (ds.count s + 1) k ↔ bdv σ r (ds.count s) k := ⟨fun hb => ⟨hb.1, hb.2.elim Or.inl (fun ⟨e, e1, e2, e3⟩ => Or.inr ⟨e, by
                have : e ≠ ds.count s := fun ee => q2 (by rw [← ee]; exact e2)
                omega, e2, e3⟩)⟩, bdv_mono (by omega)⟩
              rw [e]
              exact b3 k hk) (by decide) rfl (fun p hp => by
              rw [Nat.zero_div]
              refine ⟨fun z => absurd z (by decide), fun z => absurd ?_ z.2⟩
              exact ⟨z.1.1, z.1.2.elim Or.inl (fun ⟨e, e1, e2, e3⟩ => Or.inr ⟨e, by
                have : e ≠ ds.count s := fun ee => q2 (by rw [← ee]; exact e2)
                omega, e2, e3⟩)⟩)
            have := mRn_len (σ := stS σ (σ 265) s ds.length (ds.count s) (nI 0)) h2 hS4 hp.1
            rw [List.length_append] at this
            simp at this
            omega
          have hp := mRn_push (V := σ 265) (m := 0) (bd := nI 0) h1 h2 hS4 g1 g2 hs r1 r2 hlt (fun _ _ => rfl) (fun k hk => by
            have e : bdv σ r (ds.count s + 1) k ↔ bdv σ r (ds.count s) k := ⟨fun hb => ⟨hb.1, hb.2.elim Or.inl (fun ⟨e, e1, e2, e3⟩ => Or.inr ⟨e, by
              have : e ≠ ds.count s := fun ee => q2 (by rw [← ee]; exact e2)
              omega, e2, e3⟩)⟩, bdv_mono (by omega)⟩
            rw [e]
            exact b3 k hk) (by decide) rfl (fun p hp => by
            rw [Nat.zero_div]
            refine ⟨fun z => absurd z (by decide), fun z => absurd ?_ z.2⟩
            exact ⟨z.1.1, z.1.2.elim Or.inl (fun ⟨e, e1, e2, e3⟩ => Or.inr ⟨e, by
              have : e ≠ ds.count s := fun ee => q2 (by rw [← ee]; exact e2)
              omega, e2, e3⟩)⟩)
          repeat refine kX_one rfl ?_
          refine kX_cal (mr_does L xs (d + 6) σ s ds.length (ds.count s) (nI 0) (by omega) g1.1 hlen' r3) rfl (Or.inr rfl) rfl rfl rfl (fun r1' σ1 q1 => ?_)
          obtain ⟨rfl, rfl⟩ := q1
          have e0 : va_up (va_up (va_up (va_up σ 274 (upd (σ 274) ds.length (nI s))) 275 (upd (σ 275) ds.length (nI 0))) 232 (upd (σ 232) 55 (nI (ds.length + 1)))) 264 (upd (σ 264) s (nI (ds.count s + 1))) = stS σ (σ 265) s ds.length (ds.count s) (nI 0) := by
            unfold stS
            rw [kup_self]
          rw [e0]
          iterate 4 (refine kX_one rfl ?_)
          have hI : mI (va_up (stS σ (σ 265) s ds.length (ds.count s) (nI 0)) 232 (upd (stS σ (σ 265) s ds.length (ds.count s) (nI 0) 232) 47 (Int32.ofInt 0))) n b R S C kl := ⟨h1, h2, h3, h4, h5, Or.inr ⟨h6, ds ++ [s], hp.1, hp.2, Or.inl rfl⟩, h7⟩
          refine kX_cal (mr_row L xs d _ n b R S C kl (ds ++ [s]) hI h6 hp.1 hp.2 (Or.inl rfl)) rfl (Or.inr rfl) rfl rfl rfl (fun r1' σ1 q1 => ?_)
          obtain ⟨rfl, f1, f2, b', l, f3, f4, f5, f6, f7⟩ := q1
          repeat refine kX_one rfl ?_
          refine kX_ret (i := .ireturn) (len := 1) rfl (Or.inr rfl) rfl ⟨⟨_, rfl⟩, ?_, n, b', S, C, kl, mI_fr hI f1 f4 (Or.inr ⟨(f1.2.1 _ (by decide)).trans h6, ds ++ [s], mFr_Rn hI.1 hI.2.1 f1 hp.1, mFr_Bi hI.1 hI.2.1 f1 hp.1 hp.2, Or.inr ⟨f2, f3, l, f5, f6, ?_⟩⟩)⟩
          · refine mLow_trans ?_ (mLow_fr f1)
            unfold stS
            exact mLow_trans (mLow_trans (mLow_trans (mLow_trans (mLow_trans (mLow_up σ _ (by decide)) (mLow_up _ _ (by decide))) (mLow_up _ _ (by decide))) (mLow_up _ _ (by decide))) (mLow_up _ _ (by decide))) (mLow_up _ _ (by decide))
          · rw [f7, mFr_trRun hI.1 hI.2.1 f1 hI.2.2.2.1 hp.1]
        · repeat refine kX_one rfl ?_
          refine kX_ret (i := .ireturn) (len := 1) rfl (Or.inr rfl) rfl (⟨⟨_, rfl⟩, mAfter_same h0⟩)
      · rw [if_neg hlt]
        repeat refine kX_one rfl ?_
        refine kX_ret (i := .ireturn) (len := 1) rfl (Or.inr rfl) rfl (⟨⟨_, rfl⟩, mAfter_same h0⟩)
  · repeat refine kX_one rfl ?_
    refine kX_ret (i := .ireturn) (len := 1) rfl (Or.inr rfl) rfl (⟨⟨_, rfl⟩, mAfter_same h0⟩)
