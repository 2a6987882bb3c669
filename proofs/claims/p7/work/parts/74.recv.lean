/-! the reference: receive, walked -/
theorem mFr_bdS (σ : kS) (n : Nat) (W X A : Nat → Int32) : mFr σ (bdS σ W X A) n := by
  refine ⟨fun c hc => ?_, fun j hj => rfl, fun u hu => ⟨rfl, rfl, rfl⟩⟩
  simp only [rowC, List.mem_cons, List.not_mem_nil, or_false, not_or] at hc
  simp [bdS, va_up, hc]
set_option maxRecDepth 100000 in
set_option maxHeartbeats 4000000 in
theorem mr_receive (L : Nat) (xs : Nat → Int32) (d : Nat) (σ : kS) (n b R S C : Nat) (kl : List Nat) (x y : Int32) (h : mI σ n b R S C kl) : kXM kT L xs (d + 8) 197 [.ref 232, .int x, .int y] σ (fun r σ' => (∃ x, r = some (.int x)) ∧ mAfter σ σ' R) := by
  have h0 := h
  obtain ⟨h1, h2, h3, h4, h5, h6, h7⟩ := h
  have hS4 := h3.1
  have hR4 := h2.1
  have hn := h1.1
  unfold kXM
  repeat refine kX_one rfl ?_
  refine kX_cal (mr_isSession L xs (d + 6) σ S x h3.2.1 (by omega)) rfl (Or.inr rfl) rfl rfl rfl (fun r1 σ1 q1 => ?_)
  obtain ⟨rfl, rfl⟩ := q1
  repeat refine kX_one rfl ?_
  refine kX_if (fun q => ?_) (fun q => ?_)
  · repeat refine kX_one rfl ?_
    refine kX_ret (i := .ireturn) (len := 1) rfl (Or.inr rfl) rfl (⟨⟨_, rfl⟩, mAfter_same h0⟩)
  obtain ⟨s, hs, rfl⟩ := isB_ne.mp (qeqF q)
  repeat refine kX_one rfl ?_
  refine kX_cal (mr_isTerm L xs (d + 6) σ n y h1.2.2.2.1 (by omega)) rfl (Or.inr rfl) rfl rfl rfl (fun r1 σ1 q1 => ?_)
  obtain ⟨rfl, rfl⟩ := q1
  repeat refine kX_one rfl ?_
  refine kX_if (fun q2 => ?_) (fun q2 => ?_)
  rotate_left
  · repeat refine kX_one rfl ?_
    refine kX_ret (i := .ireturn) (len := 1) rfl (Or.inr rfl) rfl (⟨⟨_, rfl⟩, mAfter_same h0⟩)
  obtain ⟨t, ht, rfl⟩ := isB_ne.mp (qne q2)
  rcases h6 with h6 | ⟨h6, ds, g1, g2, g3⟩
  · iterate 2 (refine kX_one rfl ?_)
    refine kX_top (h6) ?_
    repeat refine kX_one rfl ?_
    refine kX_ret (i := .ireturn) (len := 1) rfl (Or.inr rfl) rfl (⟨⟨_, rfl⟩, mAfter_same h0⟩)
  obtain ⟨r, r1, r2, r3, r4, r5, r6⟩ := g1.2.2.2 s hs
  obtain ⟨b1, b2, b3⟩ := mSn_iff h1 h2 (g1.2.2.2 s hs) r2 r1
  obtain ⟨-, ev, he6, hev⟩ := h2.2.2.1 r r1
  have hfe : fN (σ 247 r) = ev := by rw [hev]; exact fN_nI (by omega)
  iterate 2 (refine kX_one rfl ?_)
  refine kX_top (h6) ?_
  repeat refine kX_one rfl ?_
  refine kX_cal (mr_nextEvent L xs (d + 6) σ n R s r (ds.count s) h2 (by omega) r1 r2 r3 (by omega)) rfl (Or.inr rfl) rfl rfl rfl (fun r1 σ1 q1 => ?_)
  obtain ⟨rfl, rfl⟩ := q1
  by_cases hlt : ds.count s < fN (σ 247 r)
  rotate_left
  · rw [if_neg hlt]
    repeat refine kX_one rfl ?_
    refine kX_ret (i := .ireturn) (len := 1) rfl (Or.inr rfl) rfl (⟨⟨_, rfl⟩, mAfter_same h0⟩)
  rw [if_pos hlt]
  repeat refine kX_one rfl ?_
  refine kX_ifF (decide_eq_false (nI_pos (by omega))) ?_
  repeat refine kX_one rfl ?_
  refine kX_baldN rfl rfl (by decide) (6 * r + ds.count s) (by first | rfl | decide) (by omega) ?_
  repeat refine kX_one rfl ?_
  refine kX_if (fun q3 => ?_) (fun q3 => ?_)
  · repeat refine kX_one rfl ?_
    refine kX_ret (i := .ireturn) (len := 1) rfl (Or.inr rfl) rfl (⟨⟨_, rfl⟩, mAfter_same h0⟩)
  have q3 : σ 249 (6 * r + ds.count s) = 0 := qneF q3
  repeat refine kX_one rfl ?_
  refine kX_baldV rfl rfl (by decide) (t) (by first | rfl | decide) (by omega) (h1.2.2.2.2.2.2.1 t (Or.inl ht)) ?_
  repeat refine kX_one rfl ?_
  refine kX_if (fun q4 => ?_) (fun q4 => ?_)
  rotate_left
  · repeat refine kX_one rfl ?_
    refine kX_ret (i := .ireturn) (len := 1) rfl (Or.inr rfl) rfl (⟨⟨_, rfl⟩, mAfter_same h0⟩)
  have q4 := (bI_ne _).mp (qne q4)
  repeat refine kX_one rfl ?_
  refine kX_cal (mr_row L xs d σ n b R S C kl ds h0 h6 g1 g2 g3) rfl (Or.inr rfl) rfl rfl rfl (fun r1' σ1 q1 => ?_)
  obtain ⟨rfl, f1, f2, b', l, f3, f4, f5, f6, f7⟩ := q1
  repeat refine kX_one rfl ?_
  refine kX_cal (mr_canMake L xs (d + 3) σ1 n b' l t f4 f5 f6 (Or.inl ht)) rfl (Or.inr rfl) rfl rfl rfl (fun r1' σ2 q1 => ?_)
  obtain ⟨rfl, M, rfl, f8⟩ := q1
  have hF2 : mFr σ (cmS σ1 M (upd (upd (σ1 232) 49 (nI b')) 50 (nI l.length))) n := mFr_trans f1 (mFr_rwF rwF_cmS)
  have hT2 : mTb (cmS σ1 M (upd (upd (σ1 232) 49 (nI b')) 50 (nI l.length))) n b' := f4
  have fin := mI_there h0 h6 g1 g2 hF2 f2 f3 hT2 f5 f8 f7
  have hq2 : mRq (cmS σ1 M (upd (upd (σ1 232) 49 (nI b')) 50 (nI l.length))) (mvG (cmS σ1 M (upd (upd (σ1 232) 49 (nI b')) 50 (nI l.length))) n b') l := f5
  have hw2 : rwM (cmS σ1 M (upd (upd (σ1 232) 49 (nI b')) 50 (nI l.length))) l = trRun σ kl ds := f7
  have hrt2 : (cmS σ1 M (upd (upd (σ1 232) 49 (nI b')) 50 (nI l.length))) 232 47 = 1 := f2
  generalize cmS σ1 M (upd (upd (σ1 232) 49 (nI b')) 50 (nI l.length)) = τ at hF2 hT2 fin f8 hq2 hw2 hrt2 ⊢
  obtain ⟨fI, fRn, fBi, fRt, fr⟩ := fin
  repeat refine kX_one rfl ?_
  refine kX_if (fun q5 => ?_) (fun q5 => ?_)
  rotate_left
  · repeat refine kX_one rfl ?_
    refine kX_ret (i := .ireturn) (len := 1) rfl (Or.inr rfl) rfl (⟨⟨_, rfl⟩, mLow_fr hF2, n, b', S, C, kl, fI⟩)
  have c := fun c (hc : c ∉ rowC) => hF2.1 c hc
  obtain ⟨te, te1, te2, te3, te4⟩ := h2.2.2.2.2.2 r (ds.count s) r1 hlt
  have hg2 : tgd (τ 233) (τ 234) (τ 235) t = true := (mFr_all h1 hF2 ht).2.1.trans q4
  repeat refine kX_one rfl ?_
  refine kX_ialdV (v := nI te) rfl rfl (by decide) _ rfl (by omega) (by rw [c 248 (by decide)]; exact te2) ?_
  repeat refine kX_one rfl ?_
  refine kX_cal (mr_bindsTo L xs (d + 6) τ n b' R s te t hT2 fI.2.1 (by omega) te1 ht hg2) rfl (Or.inr rfl) rfl rfl rfl (fun r1' σ3 q1 => ?_)
  obtain ⟨W, X, A, rfl, hbn⟩ := q1
  have hlowB : mLow σ (bdS τ W X A) := mLow_trans (mLow_fr hF2) (mLow_fr (mFr_bdS τ n W X A))
  have hIB : mI (bdS τ W X A) n b' R S C kl := mI_fr fI (mFr_bdS τ n W X A) hT2 (Or.inr ⟨fr, ds, mFr_Rn hT2 fI.2.1 (mFr_bdS τ n W X A) fRn, mFr_Bi hT2 fI.2.1 (mFr_bdS τ n W X A) fRn fBi, Or.inr ⟨hrt2, f3, l, hq2, f8, by rw [mFr_trRun hT2 fI.2.1 (mFr_bdS τ n W X A) fI.2.2.2.1 fRn, mFr_trRun h1 h2 hF2 h4 g1]; exact hw2⟩⟩)
  cases hm : mtF τ (te + 1) te t (fun k => τ 265 (6 * s + k)) with
  | none =>
    rw [hm] at hbn
    have hbn : r1' = some (.int (-1)) := hbn
    subst hbn
    repeat refine kX_one rfl ?_
    refine kX_ret (i := .ireturn) (len := 1) rfl (Or.inr rfl) rfl (⟨⟨_, rfl⟩, hlowB, n, b', S, C, kl, hIB⟩)
  | some a =>
    rw [hm] at hbn
    obtain ⟨m, m1, hr1, mA1, mB1⟩ := hbn
    subst hr1
    have hRo := fI.2.1
    have r2' : τ 255 s = nI r := by rw [c 255 (by decide)]; exact r2
    obtain ⟨v1, v2, v3⟩ := mSn_iff hT2 hRo (fRn.2.2.2 s hs) r2' r1
    have hof : ∀ u ∈ tvs (τ 233) (τ 234) (τ 235) te, τ 239 u = nI r := by
      rw [(mFr_all h1 hF2 te1).2.2, c 239 (by decide)]
      exact te3
    have hte : τ 248 (6 * r + ds.count s) = nI te := by rw [c 248 (by decide)]; exact te2
    have hsd : τ 249 (6 * r + ds.count s) = 0 := by rw [c 249 (by decide)]; exact q3
    have hlt' : ds.count s < fN (τ 247 r) := by rw [c 247 (by decide)]; exact hlt
    have hneg : (-6 : Int32) < 0 := by decide
    obtain ⟨k1, k2, k3, k4⟩ := mtF_ok hT2 hRo r1 (te + 1) te t _ a te1 ht hg2 hof (fun k hk hne => by
      by_cases hb : bdv τ r (ds.count s) k
      · exact (v3 k hk).1 hb
      · exact absurd (by rw [(v3 k hk).2 hb]; exact hneg) hne) hm
    have hbd1 : ∀ k, k < 6 → (bdv τ r (ds.count s + 1) k ↔ ¬ a k < 0) := fun k hk => by
      constructor
      · intro hb
        by_cases hb0 : bdv τ r (ds.count s) k
        · have hz := mVz_ne hT2 ((v3 k hk).1 hb0)
          rw [k1 k hz.2]
          exact hz.2
        · obtain ⟨hb1, hb2⟩ := hb
          rcases hb2 with q | ⟨e, e1, e2, e3⟩
          · exact absurd ⟨hb1, Or.inl q⟩ hb0
          · have ee : e = ds.count s := by
              refine Classical.byContradiction (fun hh => hb0 ⟨hb1, Or.inr ⟨e, by omega, e2, e3⟩⟩)
            subst ee
            obtain ⟨tt, so, as, a1, a2, a3, a4, a5, -⟩ := hRo.2.2.2.1 r k r1 hb1
            rw [a2, fN_nI (by omega), hte, fN_nI (by omega)] at e3
            exact k3 tt e3 k a5 hk
      · intro hne
        refine Classical.byContradiction (fun hb => hne ?_)
        have hb0 : ¬ bdv τ r (ds.count s) k := fun z => hb (bdv_mono (by omega) z)
        have : a k = τ 265 (6 * s + k) := k4 k hk (fun u hu e => hb (bdv_ev hT2 hRo r1 (Nat.lt_succ_self _) hlt' (by rw [hte, fN_nI (by omega)]; exact hu) e hk))
        rw [this, (v3 k hk).2 hb0]
        exact hneg
    have hbd0 : ∀ k, k < 6 → (τ 265 (6 * s + k) < 0 ↔ ¬ bdv τ r (ds.count s) k) := fun k hk => by
      constructor
      · intro hh hb
        exact (mVz_ne hT2 ((v3 k hk).1 hb)).2 hh
      · intro hb
        rw [(v3 k hk).2 hb]
        exact hneg
    repeat refine kX_one rfl ?_
    refine kX_ifT (decide_eq_true (nI_pos' (by omega))) ?_
    iterate 2 (refine kX_one rfl ?_)
    have loop := kX_while (T := kT) (L := L) (xs := xs) (d := d + 8) (mi := 197) (pc := 99) (Q := fun r σ' => (∃ x, r = some (.int x)) ∧ mAfter σ σ' R)
      (fun q : Nat × (Nat → Int32) => [(5, .int (nI q.1)), (4, .int (nI m)), (0, .ref 232), (1, .int (nI s))]) (fun q => va_up (bdS τ W X A) 265 q.2) (fun q => q.1 ≤ 6 ∧ (∀ j, (∀ k, k < 6 → j ≠ 6 * s + k) → q.2 j = τ 265 j) ∧ ∀ k, k < q.1 → q.2 (6 * s + k) = a k) (fun q => 6 - q.1) ?_ (0, τ 265) ⟨Nat.zero_le _, fun _ _ => rfl, fun k hk => absurd hk (Nat.not_lt_zero k)⟩
    · refine kX_to _ _ rfl rfl rfl ?_ loop
      funext c; unfold bdS va_up; repeat' split
      all_goals first | rfl | omega | (subst_vars; rfl) | (funext j; unfold upd; repeat' split; all_goals first | rfl | omega | (subst_vars; rfl))
    · rintro ⟨i, V⟩ ⟨i1, i2, i3⟩ ih
      dsimp only at i1 i2 i3 ih ⊢
      repeat refine kX_one rfl ?_
      refine kX_if (fun q6 => ?_) (fun q6 => ?_)
      · have q6 := qge q6 i 6
        obtain rfl : i = 6 := by omega
        have hFB := mFr_bdS τ n W X A
        have hv' : ∀ k, k < 6 → (bdv τ r (ds.count s + 1) k → mVz τ n r k (V (6 * s + k))) ∧ (¬ bdv τ r (ds.count s + 1) k → V (6 * s + k) = -6) := fun k hk => by
          rw [i3 k hk]
          refine ⟨fun hb => k2 k hk ((hbd1 k hk).mp hb), fun hb => ?_⟩
          have hb0 : ¬ bdv τ r (ds.count s) k := fun z => hb (bdv_mono (by omega) z)
          have : a k = τ 265 (6 * s + k) := k4 k hk (fun u hu e => hb (bdv_ev hT2 hRo r1 (Nat.lt_succ_self _) hlt' (by rw [hte, fN_nI (by omega)]; exact hu) e hk))
          rw [this, (v3 k hk).2 hb0]
        have hmb' : ∀ p, p < 6 → (m / 2 ^ p % 2 = 1 ↔ nbv τ r (ds.count s) p) := fun p hp => by
          rw [mB1 p hp]
          unfold nbv
          rw [hbd1 p hp, ← hbd0 p hp]
          exact and_comm
        have hp := mRn_push (σ := bdS τ W X A) (V := V) (m := m) (bd := nI m) (b := b') hT2 hRo hS4 fRn fBi hs r1 r2' hlt' i2 hv' m1 rfl hmb'
        have hlen' : ds.length < 24 := by
          have := mRn_len (σ := stS (bdS τ W X A) V s ds.length (ds.count s) (nI m)) hRo hS4 hp.1
          rw [List.length_append] at this
          simp at this
          omega
        repeat refine kX_one rfl ?_
        refine kX_cal (mr_does L xs (d + 6) (va_up (bdS τ W X A) 265 V) s ds.length (ds.count s) (nI m) (by omega) fRn.1 hlen' v1) rfl (Or.inr rfl) rfl rfl rfl (fun r1' σ4 q1 => ?_)
        obtain ⟨rfl, rfl⟩ := q1
        repeat refine kX_one rfl ?_
        refine kX_ialdN rfl rfl (by decide) s rfl (by omega) ?_
        have htr : trRun (stS (bdS τ W X A) V s ds.length (ds.count s) (nI m)) kl (ds ++ [s]) = trRun (bdS τ W X A) kl ds := trRun_recv (σ := bdS τ W X A) (b := b') hT2 hRo fRn hs r1 r2' hsd i2 (fun k hk hne => by
          rw [i3 k hk]
          exact k1 k hne)
        have htr2 : trRun (bdS τ W X A) kl ds = trRun σ kl ds := by rw [mFr_trRun hT2 fI.2.1 hFB fI.2.2.2.1 fRn, mFr_trRun h1 h2 hF2 h4 g1]
        refine kX_ret (i := .ireturn) (len := 1) rfl (Or.inr rfl) rfl ⟨⟨_, rfl⟩, ?_, n, b', S, C, kl, hT2, hRo, fI.2.2.1, fI.2.2.2.1, fI.2.2.2.2.1, Or.inr ⟨fr, ds ++ [s], hp.1, hp.2, Or.inr ⟨hrt2, f3, l, hq2, f8, ?_⟩⟩, fI.2.2.2.2.2.2⟩
        · refine mLow_trans hlowB ?_
          exact mLow_trans (mLow_trans (mLow_trans (mLow_trans (mLow_up _ V (by decide)) (mLow_up _ _ (by decide))) (mLow_up _ _ (by decide))) (mLow_up _ _ (by decide))) (mLow_up _ _ (by decide))
        · have e1 : rwM τ l = trRun (stS (bdS τ W X A) V s ds.length (ds.count s) (nI m)) kl (ds ++ [s]) := by rw [htr, htr2, hw2]
          exact e1
      · have q6 := qgeF q6 i 6
        iterate 7 (refine kX_one rfl ?_)
        refine kX_top (ix6 s i) ?_
        repeat refine kX_one rfl ?_
        refine kX_ialdV (v := a i) rfl rfl (by decide) i rfl (by omega) (mA1 i q6) ?_
        refine kX_iastN rfl rfl (by decide) (6 * s + i) (by first | rfl | decide) (by omega) ?_
        iterate 2 (refine kX_one rfl ?_)
        rw [kup_up]
        have := ih (i + 1, upd V (6 * s + i) (a i)) ⟨by simp only; omega, fun j hj => by
          simp only
          rw [pk_un (hj i q6)]
          exact i2 j hj, fun k hk => by
          simp only at hk ⊢
          by_cases e : k = i
          · subst e
            exact pk_us
          · rw [pk_un (by omega)]
            exact i3 k (by omega)⟩ (by simp only; omega)
        rw [← nI_1] at this
        exact this
