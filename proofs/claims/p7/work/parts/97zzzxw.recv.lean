/-! alike: receive -/
theorem mtF_fr {σ τ : kS} {n b : Nat} (h : mTb σ n b) (hF : mFr σ τ n) : ∀ f p t a, p < n → t < n → mtF τ f p t a = mtF σ f p t a := by
  have hn := h.1
  have hV := mTb_num h
  intro f
  induction f with
  | zero => intro p t a _ _; rfl
  | succ f ih =>
    intro p t a hp ht
    obtain ⟨p1, p2, p3⟩ := hF.2.2 p (by omega)
    obtain ⟨t1, t2, t3⟩ := hF.2.2 t (by omega)
    rw [mtF, mtF, (mFr_all h hF hp).2.1, p1, p2, p3, t1, t2, t3, hF.1 241 (by decide), hF.1 240 (by decide)]
    by_cases q1 : tgd (σ 233) (σ 234) (σ 235) p = true
    · rw [if_pos q1, if_pos q1]
    rw [if_neg q1, if_neg q1]
    by_cases q2 : σ 233 p = nI 3
    · rw [if_pos q2, if_pos q2]
    rw [if_neg q2, if_neg q2]
    by_cases q3 : σ 233 p ≠ σ 233 t
    · rw [if_pos q3, if_pos q3]
    rw [if_neg q3, if_neg q3]
    have q3 : σ 233 p = σ 233 t := Decidable.of_not_not q3
    rcases (hV p hp).2 with ⟨k, h3, hk, -, -⟩ | ⟨k, x, y, h3, hk, hx, hy, h4, h5, h6, h7⟩ | ⟨k, x, h3, hk, hx, hy, h4, h6⟩
    · refine absurd ?_ q1
      rw [tgd_0 hk h3]
      exact decide_eq_true (fun e => q2 (hk.trans (by rw [e])))
    · rcases (hV t ht).2 with ⟨k', z3, zk, -, -⟩ | ⟨k', x', y', z3, zk, zx, zy, z4, z5, z6, z7⟩ | ⟨k', x', z3, zk, zx, zy, z4, z6⟩
      · have := nI_inj (hk.symm.trans (q3.trans zk))
        omega
      · rw [hx, hy, zx, zy, fN_nI (by omega), fN_nI (by omega), fN_nI (by omega), fN_nI (by omega), ih x x' a h6 z6]
        congr 1
        funext a'
        rw [if_neg (nI_m1 (by omega)), if_neg (nI_m1 (by omega)), ih y y' a' h7 z7]
      · have := nI_inj (hk.symm.trans (q3.trans zk))
        omega
    · rcases (hV t ht).2 with ⟨k', z3, zk, -, -⟩ | ⟨k', x', y', z3, zk, zx, zy, z4, z5, z6, z7⟩ | ⟨k', x', z3, zk, zx, zy, z4, z6⟩
      · have := nI_inj (hk.symm.trans (q3.trans zk))
        omega
      · have := nI_inj (hk.symm.trans (q3.trans zk))
        omega
      · rw [hx, hy, zx, fN_nI (by omega), fN_nI (by omega), ih x x' a h6 z6]
        refine congrArg (Option.bind (mtF σ f x x' a)) (funext fun a' => ?_)
        rw [if_pos rfl, if_pos rfl]
set_option maxRecDepth 100000 in
set_option maxHeartbeats 4000000 in
theorem mg_receive (L : Nat) (xs : Nat → Int32) (d : Nat) (σ : kS) (n b R S C : Nat) (kl : List Nat) (x y : Int32) (Q : Option Value → kS → Prop) (h : mI σ n b R S C kl) (hN : ¬ (isN x S ∧ isN y n) → Q (some (.int (-1))) σ) (hZ : isN x S → isN y n → σ 232 52 = 0 → Q (some (.int (-3))) σ)
    (hO : ∀ s t ds r, s < S → x = nI s → t < n → y = nI t → σ 232 52 = 1 → mRn σ n R S ds → r < R → σ 255 s = nI r → ¬ (ds.count s < fN (σ 247 r) ∧ σ 249 (6 * r + ds.count s) = 0 ∧ tgd (σ 233) (σ 234) (σ 235) t = true) → Q (some (.int (-5))) σ)
    (hB : ∀ s t ds r te b' σ', s < S → x = nI s → t < n → y = nI t → σ 232 52 = 1 → mRn σ n R S ds → r < R → σ 255 s = nI r → ds.count s < fN (σ 247 r) → σ 249 (6 * r + ds.count s) = 0 → tgd (σ 233) (σ 234) (σ 235) t = true → te < n → σ 248 (6 * r + ds.count s) = nI te → (¬ trM σ (trRun σ kl ds) (tvl (σ 233) (σ 234) (σ 235) t) ∨ mtF σ (te + 1) te t (fun k => σ 265 (6 * s + k)) = none) → mFr σ σ' n → mI σ' n b' R S C kl → Q (some (.int (-5))) σ')
    (hA : ∀ s t ds r te b' ρ V a m, s < S → x = nI s → t < n → y = nI t → σ 232 52 = 1 → mRn σ n R S ds → r < R → σ 255 s = nI r → ds.count s < fN (σ 247 r) → σ 249 (6 * r + ds.count s) = 0 → tgd (σ 233) (σ 234) (σ 235) t = true → te < n → σ 248 (6 * r + ds.count s) = nI te → trM σ (trRun σ kl ds) (tvl (σ 233) (σ 234) (σ 235) t) → mtF σ (te + 1) te t (fun k => σ 265 (6 * s + k)) = some a → ds.length < 24 → (∀ k, ¬ σ 265 (6 * s + k) < 0 → a k = σ 265 (6 * s + k)) → mFr σ ρ n → mI ρ n b' R S C kl → (∀ j, (∀ k, k < 6 → j ≠ 6 * s + k) → V j = σ 265 j) → (∀ k, k < 6 → V (6 * s + k) = a k) → mI (stS ρ V s ds.length (ds.count s) (nI m)) n b' R S C kl → Q (some (.int (nI (ds.count s + 1)))) (stS ρ V s ds.length (ds.count s) (nI m))) : kXM kT L xs (d + 8) 197 [.ref 232, .int x, .int y] σ Q := by
  have h0 := h
  obtain ⟨h1, h2, h3, h4, h5, h6, h7⟩ := h
  have hS4 := h3.1
  have hR4 := h2.1
  have hn := h1.1
  unfold kXM
  repeat refine kX_one rfl ?_
  refine kX_cal (mr_isSession L xs (d + 6) σ S x h3.2.1 (by omega)) rfl (Or.inr rfl) rfl rfl rfl (fun r1 σ1 q1 => ?_)
  obtain ⟨rfl, rfl⟩ := q1
  repeat refine kX_one rfl ?_
  refine kX_if (fun q => ?_) (fun q => ?_)
  · have q : ¬ isN x S := fun z => isB_ne.mpr z (qeq q)
    repeat refine kX_one rfl ?_
    refine kX_ret (i := .ireturn) (len := 1) rfl (Or.inr rfl) rfl (hN (fun z => q z.1))
  obtain ⟨s, hs, rfl⟩ := isB_ne.mp (qeqF q)
  repeat refine kX_one rfl ?_
  refine kX_cal (mr_isTerm L xs (d + 6) σ n y h1.2.2.2.1 (by omega)) rfl (Or.inr rfl) rfl rfl rfl (fun r1 σ1 q1 => ?_)
  obtain ⟨rfl, rfl⟩ := q1
  repeat refine kX_one rfl ?_
  refine kX_if (fun q2 => ?_) (fun q2 => ?_)
  rotate_left
  · have q2 : ¬ isN y n := fun z => isB_ne.mpr z (qneF q2)
    repeat refine kX_one rfl ?_
    refine kX_ret (i := .ireturn) (len := 1) rfl (Or.inr rfl) rfl (hN (fun z => q2 z.2))
  obtain ⟨t, ht, rfl⟩ := isB_ne.mp (qne q2)
  rcases h6 with h6 | ⟨h6, ds, g1, g2, g3⟩
  · iterate 2 (refine kX_one rfl ?_)
    refine kX_top (h6) ?_
    repeat refine kX_one rfl ?_
    refine kX_ret (i := .ireturn) (len := 1) rfl (Or.inr rfl) rfl (hZ ⟨s, hs, rfl⟩ ⟨t, ht, rfl⟩ h6)
  obtain ⟨r, r1, r2, r3, r4, r5, r6⟩ := g1.2.2.2 s hs
  obtain ⟨b1, b2, b3⟩ := mSn_iff h1 h2 (g1.2.2.2 s hs) r2 r1
  obtain ⟨-, ev, he6, hev⟩ := h2.2.2.1 r r1
  have hfe : fN (σ 247 r) = ev := by rw [hev]; exact fN_nI (by omega)
  iterate 2 (refine kX_one rfl ?_)
  refine kX_top (h6) ?_
  repeat refine kX_one rfl ?_
  refine kX_cal (mr_nextEvent L xs (d + 6) σ n R s r (ds.count s) h2 (by omega) r1 r2 r3 (by omega)) rfl (Or.inr rfl) rfl rfl rfl (fun r1 σ1 q1 => ?_)
  obtain ⟨rfl, rfl⟩ := q1
  by_cases hlt : ds.count s < fN (σ 247 r)
  rotate_left
  · rw [if_neg hlt]
    repeat refine kX_one rfl ?_
    refine kX_ret (i := .ireturn) (len := 1) rfl (Or.inr rfl) rfl (hO s t ds r hs rfl ht rfl h6 g1 r1 r2 (fun z => hlt z.1))
  rw [if_pos hlt]
  repeat refine kX_one rfl ?_
  refine kX_ifF (decide_eq_false (nI_pos (by omega))) ?_
  repeat refine kX_one rfl ?_
  refine kX_baldN rfl rfl (by decide) (6 * r + ds.count s) (by first | rfl | decide) (by omega) ?_
  repeat refine kX_one rfl ?_
  refine kX_if (fun q3 => ?_) (fun q3 => ?_)
  · have q3 := qne q3
    repeat refine kX_one rfl ?_
    refine kX_ret (i := .ireturn) (len := 1) rfl (Or.inr rfl) rfl (hO s t ds r hs rfl ht rfl h6 g1 r1 r2 (fun z => q3 z.2.1))
  have q3 : σ 249 (6 * r + ds.count s) = 0 := qneF q3
  repeat refine kX_one rfl ?_
  refine kX_baldV rfl rfl (by decide) (t) (by first | rfl | decide) (by omega) (h1.2.2.2.2.2.2.1 t (Or.inl ht)) ?_
  repeat refine kX_one rfl ?_
  refine kX_if (fun q4 => ?_) (fun q4 => ?_)
  rotate_left
  · have q4 := (bI_eq _).mp (qneF q4)
    repeat refine kX_one rfl ?_
    refine kX_ret (i := .ireturn) (len := 1) rfl (Or.inr rfl) rfl (hO s t ds r hs rfl ht rfl h6 g1 r1 r2 (fun z => by rw [q4] at z; exact absurd z.2.2 (by decide)))
  have q4 := (bI_ne _).mp (qne q4)
  obtain ⟨te, te1, te2, te3, te4⟩ := h2.2.2.2.2.2 r (ds.count s) r1 hlt
  repeat refine kX_one rfl ?_
  refine kX_cal (mr_row L xs d σ n b R S C kl ds h0 h6 g1 g2 g3) rfl (Or.inr rfl) rfl rfl rfl (fun r1' σ1 q1 => ?_)
  obtain ⟨rfl, f1, f2, b', l, f3, f4, f5, f6, f7⟩ := q1
  repeat refine kX_one rfl ?_
  refine kX_cal (mr_canMake L xs (d + 3) σ1 n b' l t f4 f5 f6 (Or.inl ht)) rfl (Or.inr rfl) rfl rfl rfl (fun r1' σ2 q1 => ?_)
  obtain ⟨rfl, M, rfl, f8⟩ := q1
  have hF2 : mFr σ (cmS σ1 M (upd (upd (σ1 232) 49 (nI b')) 50 (nI l.length))) n := mFr_trans f1 (mFr_rwF rwF_cmS)
  have hT2 : mTb (cmS σ1 M (upd (upd (σ1 232) 49 (nI b')) 50 (nI l.length))) n b' := f4
  have fin := mI_there h0 h6 g1 g2 hF2 f2 f3 hT2 f5 f8 f7
  have hq2 : mRq (cmS σ1 M (upd (upd (σ1 232) 49 (nI b')) 50 (nI l.length))) (mvG (cmS σ1 M (upd (upd (σ1 232) 49 (nI b')) 50 (nI l.length))) n b') l := f5
  have hw2 : rwM (cmS σ1 M (upd (upd (σ1 232) 49 (nI b')) 50 (nI l.length))) l = trRun σ kl ds := f7
  have hrt2 : (cmS σ1 M (upd (upd (σ1 232) 49 (nI b')) 50 (nI l.length))) 232 47 = 1 := f2
  generalize cmS σ1 M (upd (upd (σ1 232) 49 (nI b')) 50 (nI l.length)) = τ at hF2 hT2 fin f8 hq2 hw2 hrt2 ⊢
  obtain ⟨fI, fRn, fBi, fRt, fr⟩ := fin
  have hk := mMk_tr (l := l) h1 f1 ht
  rw [f7] at hk
  repeat refine kX_one rfl ?_
  refine kX_if (fun q5 => ?_) (fun q5 => ?_)
  rotate_left
  · have q5 : ¬ mMk σ1 l t := fun z => isB_ne.mpr z (qneF q5)
    repeat refine kX_one rfl ?_
    refine kX_ret (i := .ireturn) (len := 1) rfl (Or.inr rfl) rfl (hB s t ds r te b' τ hs rfl ht rfl h6 g1 r1 r2 hlt q3 q4 te1 te2 (Or.inl (fun z => q5 (hk.mpr ⟨q4, z⟩))) hF2 fI)
  have q5 : mMk σ1 l t := isB_ne.mp (qne q5)
  have hmt : ∀ f a, mtF τ f te t a = mtF σ f te t a := fun f a => mtF_fr h1 hF2 f te t a te1 ht
  have hva : τ 265 = σ 265 := hF2.1 _ (by decide)
  have c := fun c (hc : c ∉ rowC) => hF2.1 c hc
  have hg2 : tgd (τ 233) (τ 234) (τ 235) t = true := (mFr_all h1 hF2 ht).2.1.trans q4
  repeat refine kX_one rfl ?_
  refine kX_ialdV (v := nI te) rfl rfl (by decide) _ rfl (by omega) (by rw [c 248 (by decide)]; exact te2) ?_
  repeat refine kX_one rfl ?_
  refine kX_cal (mr_bindsTo L xs (d + 6) τ n b' R s te t hT2 fI.2.1 (by omega) te1 ht hg2) rfl (Or.inr rfl) rfl rfl rfl (fun r1' σ3 q1 => ?_)
  obtain ⟨W, X, A, rfl, hbn⟩ := q1
  have hlowB : mLow σ (bdS τ W X A) := mLow_trans (mLow_fr hF2) (mLow_fr (mFr_bdS τ n W X A))
  have hIB : mI (bdS τ W X A) n b' R S C kl := mI_fr fI (mFr_bdS τ n W X A) hT2 (Or.inr ⟨fr, ds, mFr_Rn hT2 fI.2.1 (mFr_bdS τ n W X A) fRn, mFr_Bi hT2 fI.2.1 (mFr_bdS τ n W X A) fRn fBi, Or.inr ⟨hrt2, f3, l, hq2, f8, by rw [mFr_trRun hT2 fI.2.1 (mFr_bdS τ n W X A) fI.2.2.2.1 fRn, mFr_trRun h1 h2 hF2 h4 g1]; exact hw2⟩⟩)
  cases hm : mtF τ (te + 1) te t (fun k => τ 265 (6 * s + k)) with
  | none =>
    rw [hm] at hbn
    have hbn : r1' = some (.int (-1)) := hbn
    subst hbn
    rw [hmt, hva] at hm
    repeat refine kX_one rfl ?_
    refine kX_ret (i := .ireturn) (len := 1) rfl (Or.inr rfl) rfl (hB s t ds r te b' _ hs rfl ht rfl h6 g1 r1 r2 hlt q3 q4 te1 te2 (Or.inr hm) (mFr_trans hF2 (mFr_bdS τ n W X A)) hIB)
  | some a =>
    rw [hm] at hbn
    obtain ⟨m, m1, hr1, mA1, mB1⟩ := hbn
    subst hr1
    have hRo := fI.2.1
    have r2' : τ 255 s = nI r := by rw [c 255 (by decide)]; exact r2
    obtain ⟨v1, v2, v3⟩ := mSn_iff hT2 hRo (fRn.2.2.2 s hs) r2' r1
    have hof : ∀ u ∈ tvs (τ 233) (τ 234) (τ 235) te, τ 239 u = nI r := by
      rw [(mFr_all h1 hF2 te1).2.2, c 239 (by decide)]
      exact te3
    have hte : τ 248 (6 * r + ds.count s) = nI te := by rw [c 248 (by decide)]; exact te2
    have hsd : τ 249 (6 * r + ds.count s) = 0 := by rw [c 249 (by decide)]; exact q3
    have hlt' : ds.count s < fN (τ 247 r) := by rw [c 247 (by decide)]; exact hlt
    have hneg : (-6 : Int32) < 0 := by decide
    obtain ⟨k1, k2, k3, k4⟩ := mtF_ok hT2 hRo r1 (te + 1) te t _ a te1 ht hg2 hof (fun k hk hne => by
      by_cases hb : bdv τ r (ds.count s) k
      · exact (v3 k hk).1 hb
      · exact absurd (by rw [(v3 k hk).2 hb]; exact hneg) hne) hm
    have hbd1 : ∀ k, k < 6 → (bdv τ r (ds.count s + 1) k ↔ ¬ a k < 0) := fun k hk => by
      constructor
      · intro hb
        by_cases hb0 : bdv τ r (ds.count s) k
        · have hz := mVz_ne hT2 ((v3 k hk).1 hb0)
          rw [k1 k hz.2]
          exact hz.2
        · obtain ⟨hb1, hb2⟩ := hb
          rcases hb2 with q | ⟨e, e1, e2, e3⟩
          · exact absurd ⟨hb1, Or.inl q⟩ hb0
          · have ee : e = ds.count s := by
              refine Classical.byContradiction (fun hh => hb0 ⟨hb1, Or.inr ⟨e, by omega, e2, e3⟩⟩)
            subst ee
            obtain ⟨tt, so, as, a1, a2, a3, a4, a5, -⟩ := hRo.2.2.2.1 r k r1 hb1
            rw [a2, fN_nI (by omega), hte, fN_nI (by omega)] at e3
            exact k3 tt e3 k a5 hk
      · intro hne
        refine Classical.byContradiction (fun hb => hne ?_)
        have hb0 : ¬ bdv τ r (ds.count s) k := fun z => hb (bdv_mono (by omega) z)
        have : a k = τ 265 (6 * s + k) := k4 k hk (fun u hu e => hb (bdv_ev hT2 hRo r1 (Nat.lt_succ_self _) hlt' (by rw [hte, fN_nI (by omega)]; exact hu) e hk))
        rw [this, (v3 k hk).2 hb0]
        exact hneg
    have hbd0 : ∀ k, k < 6 → (τ 265 (6 * s + k) < 0 ↔ ¬ bdv τ r (ds.count s) k) := fun k hk => by
      constructor
      · intro hh hb
        exact (mVz_ne hT2 ((v3 k hk).1 hb)).2 hh
      · intro hb
        rw [(v3 k hk).2 hb]
        exact hneg
    repeat refine kX_one rfl ?_
    refine kX_ifT (decide_eq_true (nI_pos' (by omega))) ?_
    iterate 2 (refine kX_one rfl ?_)
    have loop := kX_while (T := kT) (L := L) (xs := xs) (d := d + 8) (mi := 197) (pc := 99) (Q := Q)
      (fun q : Nat × (Nat → Int32) => [(5, .int (nI q.1)), (4, .int (nI m)), (0, .ref 232), (1, .int (nI s))]) (fun q => va_up (bdS τ W X A) 265 q.2) (fun q => q.1 ≤ 6 ∧ (∀ j, (∀ k, k < 6 → j ≠ 6 * s + k) → q.2 j = τ 265 j) ∧ ∀ k, k < q.1 → q.2 (6 * s + k) = a k) (fun q => 6 - q.1) ?_ (0, τ 265) ⟨Nat.zero_le _, fun _ _ => rfl, fun k hk => absurd hk (Nat.not_lt_zero k)⟩
    · refine kX_to _ _ rfl rfl rfl ?_ loop
      funext c; unfold bdS va_up; repeat' split
      all_goals first | rfl | omega | (subst_vars; rfl) | (funext j; unfold upd; repeat' split; all_goals first | rfl | omega | (subst_vars; rfl))
    · rintro ⟨i, V⟩ ⟨i1, i2, i3⟩ ih
      dsimp only at i1 i2 i3 ih ⊢
      repeat refine kX_one rfl ?_
      refine kX_if (fun q6 => ?_) (fun q6 => ?_)
      · have q6 := qge q6 i 6
        obtain rfl : i = 6 := by omega
        have hFB := mFr_bdS τ n W X A
        have hv' : ∀ k, k < 6 → (bdv τ r (ds.count s + 1) k → mVz τ n r k (V (6 * s + k))) ∧ (¬ bdv τ r (ds.count s + 1) k → V (6 * s + k) = -6) := fun k hk => by
          rw [i3 k hk]
          refine ⟨fun hb => k2 k hk ((hbd1 k hk).mp hb), fun hb => ?_⟩
          have hb0 : ¬ bdv τ r (ds.count s) k := fun z => hb (bdv_mono (by omega) z)
          have : a k = τ 265 (6 * s + k) := k4 k hk (fun u hu e => hb (bdv_ev hT2 hRo r1 (Nat.lt_succ_self _) hlt' (by rw [hte, fN_nI (by omega)]; exact hu) e hk))
          rw [this, (v3 k hk).2 hb0]
        have hmb' : ∀ p, p < 6 → (m / 2 ^ p % 2 = 1 ↔ nbv τ r (ds.count s) p) := fun p hp => by
          rw [mB1 p hp]
          unfold nbv
          rw [hbd1 p hp, ← hbd0 p hp]
          exact and_comm
        have hp := mRn_push (σ := bdS τ W X A) (V := V) (m := m) (bd := nI m) (b := b') hT2 hRo hS4 fRn fBi hs r1 r2' hlt' i2 hv' m1 rfl hmb'
        have hlen' : ds.length < 24 := by
          have := mRn_len (σ := stS (bdS τ W X A) V s ds.length (ds.count s) (nI m)) hRo hS4 hp.1
          rw [List.length_append] at this
          simp at this
          omega
        repeat refine kX_one rfl ?_
        refine kX_cal (mr_does L xs (d + 6) (va_up (bdS τ W X A) 265 V) s ds.length (ds.count s) (nI m) (by omega) fRn.1 hlen' v1) rfl (Or.inr rfl) rfl rfl rfl (fun r1' σ4 q1 => ?_)
        obtain ⟨rfl, rfl⟩ := q1
        repeat refine kX_one rfl ?_
        refine kX_ialdV (v := nI (ds.count s + 1)) rfl rfl (by decide) s rfl (by omega) pk_us ?_
        have htr : trRun (stS (bdS τ W X A) V s ds.length (ds.count s) (nI m)) kl (ds ++ [s]) = trRun (bdS τ W X A) kl ds := trRun_recv (σ := bdS τ W X A) (b := b') hT2 hRo fRn hs r1 r2' hsd i2 (fun k hk hne => by
          rw [i3 k hk]
          exact k1 k hne)
        have htr2 : trRun (bdS τ W X A) kl ds = trRun σ kl ds := by rw [mFr_trRun hT2 fI.2.1 hFB fI.2.2.2.1 fRn, mFr_trRun h1 h2 hF2 h4 g1]
        have hfin : mI (stS (bdS τ W X A) V s ds.length (ds.count s) (nI m)) n b' R S C kl := by
          refine ⟨hT2, hRo, fI.2.2.1, fI.2.2.2.1, fI.2.2.2.2.1, Or.inr ⟨fr, ds ++ [s], hp.1, hp.2, Or.inr ⟨hrt2, f3, l, hq2, f8, ?_⟩⟩, fI.2.2.2.2.2.2⟩
          have e1 : rwM τ l = trRun (stS (bdS τ W X A) V s ds.length (ds.count s) (nI m)) kl (ds ++ [s]) := by rw [htr, htr2, hw2]
          exact e1
        rw [hmt, hva] at hm
        rw [hva] at k1 i2
        exact kX_ret (i := .ireturn) (len := 1) rfl (Or.inr rfl) rfl (hA s t ds r te b' (bdS τ W X A) V a m hs rfl ht rfl h6 g1 r1 r2 hlt q3 q4 te1 te2 (hk.mp q5).2 hm hlen' k1 (mFr_trans hF2 hFB) hIB i2 (fun k hk => i3 k hk) hfin)
      · have q6 := qgeF q6 i 6
        iterate 7 (refine kX_one rfl ?_)
        refine kX_top (ix6 s i) ?_
        repeat refine kX_one rfl ?_
        refine kX_ialdV (v := a i) rfl rfl (by decide) i rfl (by omega) (mA1 i q6) ?_
        refine kX_iastN rfl rfl (by decide) (6 * s + i) (by first | rfl | decide) (by omega) ?_
        iterate 2 (refine kX_one rfl ?_)
        rw [kup_up]
        have := ih (i + 1, upd V (6 * s + i) (a i)) ⟨by simp only; omega, fun j hj => by
          simp only
          rw [pk_un (hj i q6)]
          exact i2 j hj, fun k hk => by
          simp only at hk ⊢
          by_cases e : k = i
          · subst e
            exact pk_us
          · rw [pk_un (by omega)]
            exact i3 k (by omega)⟩ (by simp only; omega)
        rw [← nI_1] at this
        exact this
/-- what accepts leaves -/
def acQ (σ : kS) (n s te t : Nat) (q : Option Value) (σ' : kS) : Prop := (∀ c, c ≠ 185 → c ≠ 182 → σ' c = σ c) ∧ ((mtF σ (te + 1) te t (fun k => σ 265 (6 * s + k)) = none ∧ q = some (.int 0) ∧ σ' 182 = σ 182) ∨ ∃ a, mtF σ (te + 1) te t (fun k => σ 265 (6 * s + k)) = some a ∧ q = some (.int 1) ∧ (∀ k, k < 6 → trR n (σ' 182 (7 * s + 1 + k)) (a k)) ∧ ∀ i, (∀ k, k < 6 → i ≠ 7 * s + 1 + k) → σ' 182 i = σ 182 i)
set_option maxRecDepth 100000 in
set_option maxHeartbeats 4000000 in
theorem mf_accepts (L : Nat) (xs : Nat → Int32) (d : Nat) (σ : kS) (n b S s r k te t : Nat) (hT : cT σ n) (hM : mTb σ n b) (hA : ∀ t, t < n → aT1 σ t) (hS4 : S ≤ 4) (hs : s < S) (hr4 : r < 4) (hk6 : k < 6) (ht : t < n) (hte : te < n) (hg : tgd (σ 233) (σ 234) (σ 235) t = true) (he : σ (28 + 35 * r + 5 * k) 1 = nI te) (hV : ∀ k, k < 6 → trR n (σ 182 (7 * s + 1 + k)) (σ 265 (6 * s + k))) : kXM kT L xs (d + 52) 73 [.ref 181, .int (nI s), .ref (28 + 35 * r + 5 * k), .int (nI t)] σ (acQ σ n s te t) := by
  have hn := hT.1
  unfold kXM
  iterate 5 (refine kX_one rfl ?_)
  refine kX_top (y := nI (7 * s + 1)) (ix7z s) ?_
  iterate 8 (refine kX_one rfl ?_)
  refine kX_acpyN (n0 := 28) (n1 := 6) (f0 := fun _ => 0) (g0 := fun _ => 0) rfl rfl rfl rfl rfl rfl (7 * s + 1) 0 6 rfl rfl rfl (by omega) (by decide) (by decide) (by decide) (by decide) ?_
  generalize hτ : va_up σ 185 (va_cpy (σ 182) (σ 185) (7 * s + 1) 0 6) = τ
  have hP : ∀ c, c ≠ 185 → τ c = σ c := fun c hc => by rw [← hτ]; exact up_ne hc
  have h1 : ∀ k, k < 6 → trR n (τ 185 k) (σ 265 (6 * s + k)) := fun k hk => by
    rw [← hτ, up_eq, va_cpy, if_pos ⟨Nat.zero_le _, by omega⟩]
    have := hV k hk
    rw [show 7 * s + 1 + k = 7 * s + 1 + (k - 0) by omega] at this
    exact this
  have hTt : cT τ n := cT_eq (by rw [hP 1 (by decide)]) (hP _ (by decide)) (fun u _ => ⟨by rw [hP 2 (by decide)], by rw [hP 3 (by decide)], by rw [hP 4 (by decide)], by rw [hP 8 (by decide)], by rw [hP 12 (by decide)], by rw [hP 6 (by decide)]⟩) hT
  have hAt : ∀ t, t < n → aT1 τ t := fun t htn => by
    have := hA t htn
    unfold aT1 at this ⊢
    simp only [hP 2 (by decide), hP 3 (by decide), hP 4 (by decide), hP 5 (by decide), hP 8 (by decide), hP 9 (by decide), hP 10 (by decide), hP 11 (by decide), hP 12 (by decide), hP 233 (by decide), hP 234 (by decide), hP 235 (by decide), hP 236 (by decide), hP 237 (by decide), hP 238 (by decide), hP 239 (by decide), hP 240 (by decide), hP 241 (by decide)]
    exact this
  have hMt : mTb τ n b := by
    unfold mTb mAG mpt at hM ⊢
    simp only [hP 232 (by decide), hP 233 (by decide), hP 234 (by decide), hP 235 (by decide), hP 236 (by decide), hP 237 (by decide), hP 240 (by decide), hP 242 (by decide), hP 243 (by decide)]
    exact hM
  have hdp := (aT_dp hMt hAt hte).1
  iterate 2 (refine kX_one rfl ?_)
  refine kX_getN rfl rfl (kT_ev hr4 hk6) rfl ?_
  refine kX_top (y := nI te) (by rw [hP (28 + 35 * r + 5 * k) (by omega)]; exact he) ?_
  iterate 2 (refine kX_one rfl ?_)
  refine kX_cal (mf_matches L xs n b 49 d 0 τ te t (fun k => σ 265 (6 * s + k)) rfl (by omega) hTt hMt hAt hte ht (by rw [hP 233 (by decide), hP 234 (by decide), hP 235 (by decide)]; exact hg) h1) rfl (Or.inr rfl) rfl rfl rfl (fun r1 ω q1 => ?_)
  obtain ⟨hP2, hq⟩ := q1
  rw [mtF_c (fun c hc => hP c (by have := of_decide_eq_true (List.all_eq_true.mp (show ([233, 234, 235, 241, 240] : List Nat).all (fun c => decide (232 ≤ c)) = true by decide) c hc); omega))] at hq
  have hP3 : ∀ c, c ≠ 185 → ω c = σ c := fun c hc => (hP2 c hc).trans (hP c hc)
  rcases hq with ⟨hm, rfl⟩ | ⟨a, hm, rfl, hta⟩
  · repeat refine kX_one rfl ?_
    refine kX_ret (i := .ireturn) (len := 1) rfl (Or.inr rfl) rfl (⟨fun c c1 _ => hP3 c c1, Or.inl ⟨hm, rfl, hP3 _ (by decide)⟩⟩)
  · iterate 8 (refine kX_one rfl ?_)
    refine kX_acpyN (n0 := 6) (n1 := 28) (f0 := fun _ => 0) (g0 := fun _ => 0) rfl rfl rfl rfl rfl rfl 0 (7 * s + 1) 6 rfl rfl rfl (by decide) (by omega) (by decide) (by decide) (by decide) ?_
    iterate 1 (refine kX_one rfl ?_)
    refine kX_ret (i := .ireturn) (len := 1) rfl (Or.inr rfl) rfl ⟨fun c c1 c2 => ?_, Or.inr ⟨a, hm, rfl, fun k hk => ?_, fun i hi => ?_⟩⟩
    · rw [up_ne c2]
      exact hP3 c c1
    · rw [up_eq, va_cpy, if_pos ⟨by omega, by omega⟩]
      have := hta k hk
      rw [show k = 0 + (7 * s + 1 + k - (7 * s + 1)) by omega] at this
      rw [show 0 + (7 * s + 1 + k - (7 * s + 1)) = k by omega] at this ⊢
      exact this
    · rw [up_eq, va_cpy, if_neg (fun z => hi (i - (7 * s + 1)) (by omega) (by omega)), hP3 _ (by decide)]
