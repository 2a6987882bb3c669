section
/-! alike: receive -/
theorem mtF_fr {σ τ : kS} {n b : Nat} (h : mTb σ n b) (hF : mFr σ τ n) : ∀ f p t a, p < n → t < n → mtF τ f p t a = mtF σ f p t a := by
  have hn := h.1
  have hV := mTb_num h
  intro f
  induction f with
  | zero => intro p t a _ _; rfl
  | succ f ih =>
    intro p t a hp ht
    obtain ⟨p1, p2, p3⟩ := hF.2.2 p (by omega)
    obtain ⟨t1, t2, t3⟩ := hF.2.2 t (by omega)
    rw [mtF, mtF, (mFr_all h hF hp).2.1, p1, p2, p3, t1, t2, t3, hF.1 241 (by decide), hF.1 240 (by decide)]
    by_cases q1 : tgd (σ 233) (σ 234) (σ 235) p = true
    · rw [if_pos q1, if_pos q1]
    rw [if_neg q1, if_neg q1]
    by_cases q2 : σ 233 p = nI 3
    · rw [if_pos q2, if_pos q2]
    rw [if_neg q2, if_neg q2]
    by_cases q3 : σ 233 p ≠ σ 233 t
    · rw [if_pos q3, if_pos q3]
    rw [if_neg q3, if_neg q3]
    have q3 : σ 233 p = σ 233 t := Decidable.of_not_not q3
    rcases (hV p hp).2 with ⟨k, h3, hk, -, -⟩ | ⟨k, x, y, h3, hk, hx, hy, h4, h5, h6, h7⟩ | ⟨k, x, h3, hk, hx, hy, h4, h6⟩
    · refine absurd ?_ q1
      rw [tgd_0 hk h3]
      exact decide_eq_true (fun e => q2 (hk.trans (by rw [e])))
    · rcases (hV t ht).2 with ⟨k', z3, zk, -, -⟩ | ⟨k', x', y', z3, zk, zx, zy, z4, z5, z6, z7⟩ | ⟨k', x', z3, zk, zx, zy, z4, z6⟩
      · have := nI_inj (hk.symm.trans (q3.trans zk))
        omega
      · rw [hx, hy, zx, zy, fN_nI (by omega), fN_nI (by omega), fN_nI (by omega), fN_nI (by omega), ih x x' a h6 z6]
        congr 1
        funext a'
        rw [if_neg (nI_m1 (by omega)), if_neg (nI_m1 (by omega)), ih y y' a' h7 z7]
      · have := nI_inj (hk.symm.trans (q3.trans zk))
        omega
    · rcases (hV t ht).2 with ⟨k', z3, zk, -, -⟩ | ⟨k', x', y', z3, zk, zx, zy, z4, z5, z6, z7⟩ | ⟨k', x', z3, zk, zx, zy, z4, z6⟩
      · have := nI_inj (hk.symm.trans (q3.trans zk))
        omega
      · have := nI_inj (hk.symm.trans (q3.trans zk))
        omega
      · rw [hx, hy, zx, fN_nI (by omega), fN_nI (by omega), ih x x' a h6 z6]
        refine congrArg (Option.bind (mtF σ f x x' a)) (funext fun a' => ?_)
        rw [if_pos rfl, if_pos rfl]
set_option maxRecDepth 100000 in
set_option maxHeartbeats 4000000 in
theorem mg_receive (L : Nat) (xs : Nat → Int32) (d : Nat) (σ : kS) (n b R S C : Nat) (kl : List Nat) (x y : Int32) (Q : Option Value → kS → Prop) (h : mI σ n b R S C kl) (hN : ¬ (isN x S ∧ isN y n) → Q (some (.int (-1))) σ) (hZ : isN x S → isN y n → σ 232 52 = 0 → Q (some (.int (-3))) σ)
    (hO : ∀ s t ds r, s < S → x = nI s → t < n → y = nI t → σ 232 52 = 1 → mRn σ n R S ds → r < R → σ 255 s = nI r → ¬ (ds.count s < fN (σ 247 r) ∧ σ 249 (6 * r + ds.count s) = 0 ∧ tgd (σ 233) (σ 234) (σ 235) t = true) → Q (some (.int (-5))) σ)
    (hB : ∀ s t ds r te b' σ', s < S → x = nI s → t < n → y = nI t → σ 232 52 = 1 → mRn σ n R S ds → r < R → σ 255 s = nI r → ds.count s < fN (σ 247 r) → σ 249 (6 * r + ds.count s) = 0 → tgd (σ 233) (σ 234) (σ 235) t = true → te < n → σ 248 (6 * r + ds.count s) = nI te → (¬ trM σ (trRun σ kl ds) (tvl (σ 233) (σ 234) (σ 235) t) ∨ mtF σ (te + 1) te t (fun k => σ 265 (6 * s + k)) = none) → mFr σ σ' n → mI σ' n b' R S C kl → Q (some (.int (-5))) σ')
    (hA : ∀ s t ds r te b' ρ V a m, s < S → x = nI s → t < n → y = nI t → σ 232 52 = 1 → mRn σ n R S ds → r < R → σ 255 s = nI r → ds.count s < fN (σ 247 r) → σ 249 (6 * r + ds.count s) = 0 → tgd (σ 233) (σ 234) (σ 235) t = true → te < n → σ 248 (6 * r + ds.count s) = nI te → trM σ (trRun σ kl ds) (tvl (σ 233) (σ 234) (σ 235) t) → mtF σ (te + 1) te t (fun k => σ 265 (6 * s + k)) = some a → ds.length < 24 → (∀ k, ¬ σ 265 (6 * s + k) < 0 → a k = σ 265 (6 * s + k)) → mFr σ ρ n → mI ρ n b' R S C kl → (∀ j, (∀ k, k < 6 → j ≠ 6 * s + k) → V j = σ 265 j) → (∀ k, k < 6 → V (6 * s + k) = a k) → mI (stS ρ V s ds.length (ds.count s) (nI m)) n b' R S C kl → Q (some (.int (nI (ds.count s + 1)))) (stS ρ V s ds.length (ds.count s) (nI m))) : kXM kT L xs (d + 8) 197 [.ref 232, .int x, .int y] σ Q := by
  have h0 := h
  obtain ⟨h1, h2, h3, h4, h5, h6, h7⟩ := h
  have hS4 := h3.1
  have hR4 := h2.1
  have hn := h1.1
  unfold kXM
  repeat refine kX_one rfl ?_
  refine kX_cal (mr_isSession L xs (d + 6) σ S x h3.2.1 (by omega)) rfl (Or.inr rfl) rfl rfl rfl (fun r1 σ1 q1 => ?_)
  obtain ⟨rfl, rfl⟩ := q1
  repeat refine kX_one rfl ?_
  refine kX_if (fun q => ?_) (fun q => ?_)
  · have q : ¬ isN x S := fun z => isB_ne.mpr z (qeq q)
    repeat refine kX_one rfl ?_
    refine kX_ret (i := .ireturn) (len := 1) rfl (Or.inr rfl) rfl (hN (fun z => q z.1))
  obtain ⟨s, hs, rfl⟩ := isB_ne.mp (qeqF q)
  repeat refine kX_one rfl ?_
  refine kX_cal (mr_isTerm L xs (d + 6) σ n y h1.2.2.2.1 (by omega)) rfl (Or.inr rfl) rfl rfl rfl (fun r1 σ1 q1 => ?_)
  obtain ⟨rfl, rfl⟩ := q1
  repeat refine kX_one rfl ?_
  refine kX_if (fun q2 => ?_) (fun q2 => ?_)
  rotate_left
  · have q2 : ¬ isN y n := fun z => isB_ne.mpr z (qneF q2)
    repeat refine kX_one rfl ?_
    refine kX_ret (i := .ireturn) (len := 1) rfl (Or.inr rfl) rfl (hN (fun z => q2 z.2))
  obtain ⟨t, ht, rfl⟩ := isB_ne.mp (qne q2)
  rcases h6 with h6 | ⟨h6, ds, g1, g2, g3⟩
  · iterate 2 (refine kX_one rfl ?_)
    refine kX_top (h6) ?_
    repeat refine kX_one rfl ?_
    refine kX_ret (i := .ireturn) (len := 1) rfl (Or.inr rfl) rfl (hZ ⟨s, hs, rfl⟩ ⟨t, ht, rfl⟩ h6)
  obtain ⟨r, r1, r2, r3, r4, r5, r6⟩ := g1.2.2.2 s hs
  obtain ⟨b1, b2, b3⟩ := mSn_iff h1 h2 (g1.2.2.2 s hs) r2 r1
  obtain ⟨-, ev, he6, hev⟩ := h2.2.2.1 r r1
  have hfe : fN (σ 247 r) = ev := by rw [hev]; exact fN_nI (by omega)
  iterate 2 (refine kX_one rfl ?_)
  refine kX_top (h6) ?_
  repeat refine kX_one rfl ?_
  refine kX_cal (mr_nextEvent L xs (d + 6) σ n R s r (ds.count s) h2 (by omega) r1 r2 r3 (by omega)) rfl (Or.inr rfl) rfl rfl rfl (fun r1 σ1 q1 => ?_)
  obtain ⟨rfl, rfl⟩ := q1
  by_cases hlt : ds.count s < fN (σ 247 r)
  rotate_left
  · rw [if_neg hlt]
    repeat refine kX_one rfl ?_
    refine kX_ret (i := .ireturn) (len := 1) rfl (Or.inr rfl) rfl (hO s t ds r hs rfl ht rfl h6 g1 r1 r2 (fun z => hlt z.1))
  rw [if_pos hlt]
  repeat refine kX_one rfl ?_
  refine kX_ifF (decide_eq_false (nI_pos (by omega))) ?_
  repeat refine kX_one rfl ?_
  refine kX_baldN rfl rfl (by decide) (6 * r + ds.count s) (by first | rfl | decide) (by omega) ?_
  repeat refine kX_one rfl ?_
  refine kX_if (fun q3 => ?_) (fun q3 => ?_)
  · have q3 := qne q3
    repeat refine kX_one rfl ?_
    refine kX_ret (i := .ireturn) (len := 1) rfl (Or.inr rfl) rfl (hO s t ds r hs rfl ht rfl h6 g1 r1 r2 (fun z => q3 z.2.1))
  have q3 : σ 249 (6 * r + ds.count s) = 0 := qneF q3
  repeat refine kX_one rfl ?_
  refine kX_baldV rfl rfl (by decide) (t) (by first | rfl | decide) (by omega) (h1.2.2.2.2.2.2.1 t (Or.inl ht)) ?_
  repeat refine kX_one rfl ?_
  refine kX_if (fun q4 => ?_) (fun q4 => ?_)
  rotate_left
  · have q4 := (bI_eq _).mp (qneF q4)
    repeat refine kX_one rfl ?_
    refine kX_ret (i := .ireturn) (len := 1) rfl (Or.inr rfl) rfl (hO s t ds r hs rfl ht rfl h6 g1 r1 r2 (fun z => by rw [q4] at z; exact absurd z.2.2 (by decide)))
  have q4 := (bI_ne _).mp (qne q4)
  obtain ⟨te, te1, te2, te3, te4⟩ := h2.2.2.2.2.2 r (ds.count s) r1 hlt
  repeat refine kX_one rfl ?_
  refine kX_cal (mr_row L xs d σ n b R S C kl ds h0 h6 g1 g2 g3) rfl (Or.inr rfl) rfl rfl rfl (fun r1' σ1 q1 => ?_)
  obtain ⟨rfl, f1, f2, b', l, f3, f4, f5, f6, f7⟩ := q1
  repeat refine kX_one rfl ?_
  refine kX_cal (mr_canMake L xs (d + 3) σ1 n b' l t f4 f5 f6 (Or.inl ht)) rfl (Or.inr rfl) rfl rfl rfl (fun r1' σ2 q1 => ?_)
  obtain ⟨rfl, M, rfl, f8⟩ := q1
  have hF2 : mFr σ (cmS σ1 M (upd (upd (σ1 232) 49 (nI b')) 50 (nI l.length))) n := mFr_trans f1 (mFr_rwF rwF_cmS)
  have hT2 : mTb (cmS σ1 M (upd (upd (σ1 232) 49 (nI b')) 50 (nI l.length))) n b' := f4
  have fin := mI_there h0 h6 g1 g2 hF2 f2 f3 hT2 f5 f8 f7
  have hq2 : mRq (cmS σ1 M (upd (upd (σ1 232) 49 (nI b')) 50 (nI l.length))) (mvG (cmS σ1 M (upd (upd (σ1 232) 49 (nI b')) 50 (nI l.length))) n b') l := f5
  have hw2 : rwM (cmS σ1 M (upd (upd (σ1 232) 49 (nI b')) 50 (nI l.length))) l = trRun σ kl ds := f7
  have hrt2 : (cmS σ1 M (upd (upd (σ1 232) 49 (nI b')) 50 (nI l.length))) 232 47 = 1 := f2
  generalize cmS σ1 M (upd (upd (σ1 232) 49 (nI b')) 50 (nI l.length)) = τ at hF2 hT2 fin f8 hq2 hw2 hrt2 ⊢
  obtain ⟨fI, fRn, fBi, fRt, fr⟩ := fin
  have hk := mMk_tr (l := l) h1 f1 ht
  rw [f7] at hk
  repeat refine kX_one rfl ?_
  refine kX_if (fun q5 => ?_) (fun q5 => ?_)
  rotate_left
  · have q5 : ¬ mMk σ1 l t := fun z => isB_ne.mpr z (qneF q5)
    repeat refine kX_one rfl ?_
    refine kX_ret (i := .ireturn) (len := 1) rfl (Or.inr rfl) rfl (hB s t ds r te b' τ hs rfl ht rfl h6 g1 r1 r2 hlt q3 q4 te1 te2 (Or.inl (fun z => q5 (hk.mpr ⟨q4, z⟩))) hF2 fI)
  have q5 : mMk σ1 l t := isB_ne.mp (qne q5)
  have hmt : ∀ f a, mtF τ f te t a = mtF σ f te t a := fun f a => mtF_fr h1 hF2 f te t a te1 ht
  have hva : τ 265 = σ 265 := hF2.1 _ (by decide)
  have c := fun c (hc : c ∉ rowC) => hF2.1 c hc
  have hg2 : tgd (τ 233) (τ 234) (τ 235) t = true := (mFr_all h1 hF2 ht).2.1.trans q4
  repeat refine kX_one rfl ?_
  refine kX_ialdV (v := nI te) rfl rfl (by decide) _ rfl (by omega) (by rw [c 248 (by decide)]; exact te2) ?_
  repeat refine kX_one rfl ?_
  refine kX_cal (mr_bindsTo L xs (d + 6) τ n b' R s te t hT2 fI.2.1 (by omega) te1 ht hg2) rfl (Or.inr rfl) rfl rfl rfl (fun r1' σ3 q1 => ?_)
  obtain ⟨W, X, A, rfl, hbn⟩ := q1
  have hlowB : mLow σ (bdS τ W X A) := mLow_trans (mLow_fr hF2) (mLow_fr (mFr_bdS τ n W X A))
  have hIB : mI (bdS τ W X A) n b' R S C kl := mI_fr fI (mFr_bdS τ n W X A) hT2 (Or.inr ⟨fr, ds, mFr_Rn hT2 fI.2.1 (mFr_bdS τ n W X A) fRn, mFr_Bi hT2 fI.2.1 (mFr_bdS τ n W X A) fRn fBi, Or.inr ⟨hrt2, f3, l, hq2, f8, by rw [mFr_trRun hT2 fI.2.1 (mFr_bdS τ n W X A) fI.2.2.2.1 fRn, mFr_trRun h1 h2 hF2 h4 g1]; exact hw2⟩⟩)
  cases hm : mtF τ (te + 1) te t (fun k => τ 265 (6 * s + k)) with
  | none =>
    rw [hm] at hbn
    have hbn : r1' = some (.int (-1)) := hbn
    subst hbn
    rw [hmt, hva] at hm
    repeat refine kX_one rfl ?_
    refine kX_ret (i := .ireturn) (len := 1) rfl (Or.inr rfl) rfl (hB s t ds r te b' _ hs rfl ht rfl h6 g1 r1 r2 hlt q3 q4 te1 te2 (Or.inr hm) (mFr_trans hF2 (mFr_bdS τ n W X A)) hIB)
  | some a =>
    rw [hm] at hbn
    obtain ⟨m, m1, hr1, mA1, mB1⟩ := hbn
    subst hr1
    have hRo := fI.2.1
    have r2' : τ 255 s = nI r := by rw [c 255 (by decide)]; exact r2
    obtain ⟨v1, v2, v3⟩ := mSn_iff hT2 hRo (fRn.2.2.2 s hs) r2' r1
    have hof : ∀ u ∈ tvs (τ 233) (τ 234) (τ 235) te, τ 239 u = nI r := by
      rw [(mFr_all h1 hF2 te1).2.2, c 239 (by decide)]
      exact te3
    have hte : τ 248 (6 * r + ds.count s) = nI te := by rw [c 248 (by decide)]; exact te2
    have hsd : τ 249 (6 * r + ds.count s) = 0 := by rw [c 249 (by decide)]; exact q3
    have hlt' : ds.count s < fN (τ 247 r) := by rw [c 247 (by decide)]; exact hlt
    have hneg : (-6 : Int32) < 0 := by decide
    obtain ⟨k1, k2, k3, k4⟩ := mtF_ok hT2 hRo r1 (te + 1) te t _ a te1 ht hg2 hof (fun k hk hne => by
      by_cases hb : bdv τ r (ds.count s) k
      · exact (v3 k hk).1 hb
      · exact absurd (by rw [(v3 k hk).2 hb]; exact hneg) hne) hm
    have hbd1 : ∀ k, k < 6 → (bdv τ r (ds.count s + 1) k ↔ ¬ a k < 0) := fun k hk => by
      constructor
      · intro hb
        by_cases hb0 : bdv τ r (ds.count s) k
        · have hz := mVz_ne hT2 ((v3 k hk).1 hb0)
          rw [k1 k hz.2]
          exact hz.2
        · obtain ⟨hb1, hb2⟩ := hb
          rcases hb2 with q | ⟨e, e1, e2, e3⟩
          · exact absurd ⟨hb1, Or.inl q⟩ hb0
          · have ee : e = ds.count s := by
              refine Classical.byContradiction (fun hh => hb0 ⟨hb1, Or.inr ⟨e, by omega, e2, e3⟩⟩)
            subst ee
            obtain ⟨tt, so, as, a1, a2, a3, a4, a5, -⟩ := hRo.2.2.2.1 r k r1 hb1
            rw [a2, fN_nI (by omega), hte, fN_nI (by omega)] at e3
            exact k3 tt e3 k a5 hk
      · intro hne
        refine Classical.byContradiction (fun hb => hne ?_)
        have hb0 : ¬ bdv τ r (ds.count s) k := fun z => hb (bdv_mono (by omega) z)
        have : a k = τ 265 (6 * s + k) := k4 k hk (fun u hu e => hb (bdv_ev hT2 hRo r1 (Nat.lt_succ_self _) hlt' (by rw [hte, fN_nI (by omega)]; exact hu) e hk))
        rw [this, (v3 k hk).2 hb0]
        exact hneg
    have hbd0 : ∀ k, k < 6 → (τ 265 (6 * s + k) < 0 ↔ ¬ bdv τ r (ds.count s) k) := fun k hk => by
      constructor
      · intro hh hb
        exact (mVz_ne hT2 ((v3 k hk).1 hb)).2 hh
      · intro hb
        rw [(v3 k hk).2 hb]
        exact hneg
    repeat refine kX_one rfl ?_
    refine kX_ifT (decide_eq_true (nI_pos' (by omega))) ?_
    iterate 2 (refine kX_one rfl ?_)
    have loop := kX_while (T := kT) (L := L) (xs := xs) (d := d + 8) (mi := 197) (pc := 99) (Q := Q)
      (fun q : Nat × (Nat → Int32) => [(5, .int (nI q.1)), (4, .int (nI m)), (0, .ref 232), (1, .int (nI s))]) (fun q => va_up (bdS τ W X A) 265 q.2) (fun q => q.1 ≤ 6 ∧ (∀ j, (∀ k, k < 6 → j ≠ 6 * s + k) → q.2 j = τ 265 j) ∧ ∀ k, k < q.1 → q.2 (6 * s + k) = a k) (fun q => 6 - q.1) ?_ (0, τ 265) ⟨Nat.zero_le _, fun _ _ => rfl, fun k hk => absurd hk (Nat.not_lt_zero k)⟩
    · refine kX_to _ _ rfl rfl rfl ?_ loop
      funext c; unfold bdS; first
        | ((repeat (refine va_case ?_ ?_; (· (intro h; first | (subst h; rfl) | (unfold va_up; repeat' split; (all_goals first | rfl | omega | (subst_vars; rfl) | (funext j; unfold upd; repeat' split; all_goals first | rfl | omega | (subst_vars; rfl)))))); intro h)); (repeat (refine va_case2 ?_ ?_; (· (intro h; first | exact absurd h (by assumption) | (subst h; rfl) | (subst h; funext j; unfold upd; repeat' split; (all_goals first | rfl | omega | (subst_vars; rfl))))); intro h)); rfl)
        | (unfold va_up; repeat' split
           all_goals first | rfl | omega | (subst_vars; rfl) | (funext j; unfold upd; repeat' split; all_goals first | rfl | omega | (subst_vars; rfl)))
    · rintro ⟨i, V⟩ ⟨i1, i2, i3⟩ ih
      dsimp only at i1 i2 i3 ih ⊢
      repeat refine kX_one rfl ?_
      refine kX_if (fun q6 => ?_) (fun q6 => ?_)
      · have q6 := qge q6 i 6
        obtain rfl : i = 6 := by omega
        have hFB := mFr_bdS τ n W X A
        have hv' : ∀ k, k < 6 → (bdv τ r (ds.count s + 1) k → mVz τ n r k (V (6 * s + k))) ∧ (¬ bdv τ r (ds.count s + 1) k → V (6 * s + k) = -6) := fun k hk => by
          rw [i3 k hk]
          refine ⟨fun hb => k2 k hk ((hbd1 k hk).mp hb), fun hb => ?_⟩
          have hb0 : ¬ bdv τ r (ds.count s) k := fun z => hb (bdv_mono (by omega) z)
          have : a k = τ 265 (6 * s + k) := k4 k hk (fun u hu e => hb (bdv_ev hT2 hRo r1 (Nat.lt_succ_self _) hlt' (by rw [hte, fN_nI (by omega)]; exact hu) e hk))
          rw [this, (v3 k hk).2 hb0]
        have hmb' : ∀ p, p < 6 → (m / 2 ^ p % 2 = 1 ↔ nbv τ r (ds.count s) p) := fun p hp => by
          rw [mB1 p hp]
          unfold nbv
          rw [hbd1 p hp, ← hbd0 p hp]
          exact and_comm
        have hp := mRn_push (σ := bdS τ W X A) (V := V) (m := m) (bd := nI m) (b := b') hT2 hRo hS4 fRn fBi hs r1 r2' hlt' i2 hv' m1 rfl hmb'
        have hlen' : ds.length < 24 := by
          have := mRn_len (σ := stS (bdS τ W X A) V s ds.length (ds.count s) (nI m)) hRo hS4 hp.1
          rw [List.length_append] at this
          simp at this
          omega
        repeat refine kX_one rfl ?_
        refine kX_cal (mr_does L xs (d + 6) (va_up (bdS τ W X A) 265 V) s ds.length (ds.count s) (nI m) (by omega) fRn.1 hlen' v1) rfl (Or.inr rfl) rfl rfl rfl (fun r1' σ4 q1 => ?_)
        obtain ⟨rfl, rfl⟩ := q1
        repeat refine kX_one rfl ?_
        refine kX_ialdV (v := nI (ds.count s + 1)) rfl rfl (by decide) s rfl (by omega) pk_us ?_
        have htr : trRun (stS (bdS τ W X A) V s ds.length (ds.count s) (nI m)) kl (ds ++ [s]) = trRun (bdS τ W X A) kl ds := trRun_recv (σ := bdS τ W X A) (b := b') hT2 hRo fRn hs r1 r2' hsd i2 (fun k hk hne => by
          rw [i3 k hk]
          exact k1 k hne)
        have htr2 : trRun (bdS τ W X A) kl ds = trRun σ kl ds := by rw [mFr_trRun hT2 fI.2.1 hFB fI.2.2.2.1 fRn, mFr_trRun h1 h2 hF2 h4 g1]
        have hfin : mI (stS (bdS τ W X A) V s ds.length (ds.count s) (nI m)) n b' R S C kl := by
          refine ⟨hT2, hRo, fI.2.2.1, fI.2.2.2.1, fI.2.2.2.2.1, Or.inr ⟨fr, ds ++ [s], hp.1, hp.2, Or.inr ⟨hrt2, f3, l, hq2, f8, ?_⟩⟩, fI.2.2.2.2.2.2⟩
          have e1 : rwM τ l = trRun (stS (bdS τ W X A) V s ds.length (ds.count s) (nI m)) kl (ds ++ [s]) := by rw [htr, htr2, hw2]
          exact e1
        rw [hmt, hva] at hm
        rw [hva] at k1 i2
        exact kX_ret (i := .ireturn) (len := 1) rfl (Or.inr rfl) rfl (hA s t ds r te b' (bdS τ W X A) V a m hs rfl ht rfl h6 g1 r1 r2 hlt q3 q4 te1 te2 (hk.mp q5).2 hm hlen' k1 (mFr_trans hF2 hFB) hIB i2 (fun k hk => i3 k hk) hfin)
      · have q6 := qgeF q6 i 6
        iterate 7 (refine kX_one rfl ?_)
        refine kX_top (ix6 s i) ?_
        repeat refine kX_one rfl ?_
        refine kX_ialdV (v := a i) rfl rfl (by decide) i rfl (by omega) (mA1 i q6) ?_
        refine kX_iastN rfl rfl (by decide) (6 * s + i) (by first | rfl | decide) (by omega) ?_
        iterate 2 (refine kX_one rfl ?_)
        rw [kup_up]
        have := ih (i + 1, upd V (6 * s + i) (a i)) ⟨by simp only; omega, fun j hj => by
          simp only
          rw [pk_un (hj i q6)]
          exact i2 j hj, fun k hk => by
          simp only at hk ⊢
          by_cases e : k = i
          · subst e
            exact pk_us
          · rw [pk_un (by omega)]
            exact i3 k (by omega)⟩ (by simp only; omega)
        rw [← nI_1] at this
        exact this
/-- what accepts leaves -/
def acQ (σ : kS) (n s te t : Nat) (q : Option Value) (σ' : kS) : Prop := (∀ c, c ≠ 185 → c ≠ 182 → σ' c = σ c) ∧ ((mtF σ (te + 1) te t (fun k => σ 265 (6 * s + k)) = none ∧ q = some (.int 0) ∧ σ' 182 = σ 182) ∨ ∃ a, mtF σ (te + 1) te t (fun k => σ 265 (6 * s + k)) = some a ∧ q = some (.int 1) ∧ (∀ k, k < 6 → trR n (σ' 182 (7 * s + 1 + k)) (a k)) ∧ ∀ i, (∀ k, k < 6 → i ≠ 7 * s + 1 + k) → σ' 182 i = σ 182 i)
set_option maxRecDepth 100000 in
set_option maxHeartbeats 4000000 in
theorem mf_accepts (L : Nat) (xs : Nat → Int32) (d : Nat) (σ : kS) (n b S s r k te t : Nat) (hT : cT σ n) (hM : mTb σ n b) (hA : ∀ t, t < n → aT1 σ t) (hS4 : S ≤ 4) (hs : s < S) (hr4 : r < 4) (hk6 : k < 6) (ht : t < n) (hte : te < n) (hg : tgd (σ 233) (σ 234) (σ 235) t = true) (he : σ (28 + 35 * r + 5 * k) 1 = nI te) (hV : ∀ k, k < 6 → trR n (σ 182 (7 * s + 1 + k)) (σ 265 (6 * s + k))) : kXM kT L xs (d + 52) 73 [.ref 181, .int (nI s), .ref (28 + 35 * r + 5 * k), .int (nI t)] σ (acQ σ n s te t) := by
  have hn := hT.1
  unfold kXM
  iterate 5 (refine kX_one rfl ?_)
  refine kX_top (y := nI (7 * s + 1)) (ix7z s) ?_
  iterate 8 (refine kX_one rfl ?_)
  refine kX_acpyN (n0 := 28) (n1 := 6) (f0 := fun _ => 0) (g0 := fun _ => 0) rfl rfl rfl rfl rfl rfl (7 * s + 1) 0 6 rfl rfl rfl (by omega) (by decide) (by decide) (by decide) (by decide) ?_
  generalize hτ : va_up σ 185 (va_cpy (σ 182) (σ 185) (7 * s + 1) 0 6) = τ
  have hP : ∀ c, c ≠ 185 → τ c = σ c := fun c hc => by rw [← hτ]; exact up_ne hc
  have h1 : ∀ k, k < 6 → trR n (τ 185 k) (σ 265 (6 * s + k)) := fun k hk => by
    rw [← hτ, up_eq, va_cpy, if_pos ⟨Nat.zero_le _, by omega⟩]
    have := hV k hk
    rw [show 7 * s + 1 + k = 7 * s + 1 + (k - 0) by omega] at this
    exact this
  have hTt : cT τ n := cT_eq (by rw [hP 1 (by decide)]) (hP _ (by decide)) (fun u _ => ⟨by rw [hP 2 (by decide)], by rw [hP 3 (by decide)], by rw [hP 4 (by decide)], by rw [hP 8 (by decide)], by rw [hP 12 (by decide)], by rw [hP 6 (by decide)]⟩) hT
  have hAt : ∀ t, t < n → aT1 τ t := fun t htn => by
    have := hA t htn
    unfold aT1 at this ⊢
    simp only [hP 2 (by decide), hP 3 (by decide), hP 4 (by decide), hP 5 (by decide), hP 8 (by decide), hP 9 (by decide), hP 10 (by decide), hP 11 (by decide), hP 12 (by decide), hP 233 (by decide), hP 234 (by decide), hP 235 (by decide), hP 236 (by decide), hP 237 (by decide), hP 238 (by decide), hP 239 (by decide), hP 240 (by decide), hP 241 (by decide)]
    exact this
  have hMt : mTb τ n b := by
    unfold mTb mAG mpt at hM ⊢
    simp only [hP 232 (by decide), hP 233 (by decide), hP 234 (by decide), hP 235 (by decide), hP 236 (by decide), hP 237 (by decide), hP 240 (by decide), hP 242 (by decide), hP 243 (by decide)]
    exact hM
  have hdp := (aT_dp hMt hAt hte).1
  iterate 2 (refine kX_one rfl ?_)
  refine kX_getN rfl rfl (kT_ev hr4 hk6) rfl ?_
  refine kX_top (y := nI te) (by rw [hP (28 + 35 * r + 5 * k) (by omega)]; exact he) ?_
  iterate 2 (refine kX_one rfl ?_)
  refine kX_cal (mf_matches L xs n b 49 d 0 τ te t (fun k => σ 265 (6 * s + k)) rfl (by omega) hTt hMt hAt hte ht (by rw [hP 233 (by decide), hP 234 (by decide), hP 235 (by decide)]; exact hg) h1) rfl (Or.inr rfl) rfl rfl rfl (fun r1 ω q1 => ?_)
  obtain ⟨hP2, hq⟩ := q1
  rw [mtF_c (fun c hc => hP c (by have := of_decide_eq_true (List.all_eq_true.mp (show ([233, 234, 235, 241, 240] : List Nat).all (fun c => decide (232 ≤ c)) = true by decide) c hc); omega))] at hq
  have hP3 : ∀ c, c ≠ 185 → ω c = σ c := fun c hc => (hP2 c hc).trans (hP c hc)
  rcases hq with ⟨hm, rfl⟩ | ⟨a, hm, rfl, hta⟩
  · repeat refine kX_one rfl ?_
    refine kX_ret (i := .ireturn) (len := 1) rfl (Or.inr rfl) rfl (⟨fun c c1 _ => hP3 c c1, Or.inl ⟨hm, rfl, hP3 _ (by decide)⟩⟩)
  · iterate 8 (refine kX_one rfl ?_)
    refine kX_acpyN (n0 := 6) (n1 := 28) (f0 := fun _ => 0) (g0 := fun _ => 0) rfl rfl rfl rfl rfl rfl 0 (7 * s + 1) 6 rfl rfl rfl (by decide) (by omega) (by decide) (by decide) (by decide) ?_
    iterate 1 (refine kX_one rfl ?_)
    refine kX_ret (i := .ireturn) (len := 1) rfl (Or.inr rfl) rfl ⟨fun c c1 c2 => ?_, Or.inr ⟨a, hm, rfl, fun k hk => ?_, fun i hi => ?_⟩⟩
    · rw [up_ne c2]
      exact hP3 c c1
    · rw [up_eq, va_cpy, if_pos ⟨by omega, by omega⟩]
      have := hta k hk
      rw [show k = 0 + (7 * s + 1 + k - (7 * s + 1)) by omega] at this
      rw [show 0 + (7 * s + 1 + k - (7 * s + 1)) = k by omega] at this ⊢
      exact this
    · rw [up_eq, va_cpy, if_neg (fun z => hi (i - (7 * s + 1)) (by omega) (by omega)), hP3 _ (by decide)]
end
section
/-! alike: receive -/
theorem aJ_fr {σ ω : kS} {n b b' R S C m : Nat} {kl : List Nat} (h : aJ σ n b R S C kl m) (hl : ∀ c, c < 232 → ω c = σ c) (hF : mFr σ ω n) (hI : mI ω n b' R S C kl) : aJ ω n b' R S C kl m := by
  obtain ⟨h1, h2, h3, h4⟩ := h
  have hn := h1.1.1
  refine ⟨hI, cJ_low hl h2, aT_low hl (fun t ht => ?_) h3, aB_fr h1 hl hF h4⟩
  have hk : ∀ u, u < n → ω 233 u = σ 233 u ∧ ω 234 u = σ 234 u ∧ ω 235 u = σ 235 u := fun u hu => hF.2.2 u (by omega)
  have := mTb_sg h1.1 hI.1 (Nat.le_refl _) hk ht
  exact ⟨(hk t ht).1, (hk t ht).2.1, (hk t ht).2.2, this.1, this.2, by rw [hF.1 238 (by decide)], by rw [hF.1 239 (by decide)], by rw [hF.1 240 (by decide)], by rw [hF.1 241 (by decide)]⟩
theorem aJ_run2 {σ ω : kS} {n b b' R S C m : Nat} {kl : List Nat} (h : aJ σ n b R S C kl m) (hI : mI ω n b' R S C kl) (hJ : cJ ω n R S C) (e : ∀ c, c < 181 ∨ (186 ≤ c ∧ c < 232) → ω c = σ c) (er : ∀ c, 232 < c → c ≠ 264 → c ≠ 265 → c ≠ 274 → c ≠ 275 → ω c = σ c) (eo : ∀ j, j ≠ 52 → j ≠ 55 → j ≠ 47 → ω 232 j = σ 232 j) (hU : aU ω n S kl) : aJ ω n b' R S C kl m := by
  obtain ⟨i, -, t, r, s, c, k, -, f, mm⟩ := h
  have hr : ∀ l : List Nat, l.all (fun c => decide (232 < c ∧ c ≠ 264 ∧ c ≠ 265 ∧ c ≠ 274 ∧ c ≠ 275)) = true → eqC σ ω l := eqC_of (fun c q => er c q.1 q.2.1 q.2.2.1 q.2.2.2.1 q.2.2.2.2)
  have hl : ∀ c, c < 181 → ω c = σ c := fun c hc => e c (by omega)
  have hh : ∀ c, 186 ≤ c → c < 232 → ω c = σ c := fun c c1 c2 => e c (by omega)
  exact ⟨hI, hJ, aT_c (fun c c1 c2 => hl c (by omega)) (hr _ (by decide)) t, aR_c i.1 i.2.1 (fun c c1 c2 => hl c (by omega)) (hr _ (by decide)) r, aS_c i.1.1 i.2.1 i.2.2.1 (hl _ (by decide)) (hl _ (by decide)) (hl _ (by decide)) (hr _ (by decide)) s, aC_c i.2.2.2.2.1 (fun c c1 c2 => hl c (by omega)) (hr _ (by decide)) c, aK_eq (by rw [hl 13 (by decide)]) (hl _ (by decide)) k, hU, aF_c i.1 i.2.1 i.2.2.1 (fun c c1 c2 => hl c (by omega)) (hr _ (by decide)) (hh _ (by decide) (by decide)) (hh _ (by decide) (by decide)) (hh _ (by decide) (by decide)) (hh _ (by decide) (by decide)) ⟨eo _ (by decide) (by decide) (by decide), eo _ (by decide) (by decide) (by decide), eo _ (by decide) (by decide) (by decide), eo _ (by decide) (by decide) (by decide)⟩ (hr _ (by decide)) f, aM_eq (Nat.le_refl _) (fun c c1 c2 => hh c c1 (by omega)) mm⟩
/-- what stands for the VARIABLES of the RUN -/
theorem aU_tr {σ : kS} {n b R S C m s k : Nat} {kl : List Nat} (h : aJ σ n b R S C kl m) (hr0 : σ 232 52 ≠ 0) (hs : s < S) (hk : k < 6) : trR n (σ 182 (7 * s + 1 + k)) (σ 265 (6 * s + k)) := by
  have hn := h.1.1.1
  have hU := h.2.2.2.2.2.2.2.1
  have e := ((hU.2 hr0).2.2.1 s hs).2 k hk
  rcases h.2.1.2.2.2.2.2.2.2.2.1 with z | ⟨-, -, hcV, -⟩
  · exact absurd z (fun z => hU.1.mpr hr0 z)
  · have := hcV s k hs hk
    rw [show 0 + 7 * s + 1 + k = 7 * s + 1 + k by omega] at this
    rcases this with q | ⟨z, z1, z2, -⟩
    · rw [q] at e
      exact Or.inl ⟨q, e.symm⟩
    · rw [z2, nnI_nI (by omega)] at e
      exact Or.inr ⟨z, z1, z2, e.symm⟩
/-- the RUN goes on with what was received -/
theorem aJ_recv {σ τ ρ ω : kS} {n b b' R S C m s r k mm : Nat} {kl ds : List Nat} {V a : Nat → Int32} (h : aJ τ n b R S C kl m) (hr0 : τ 232 52 ≠ 0) (hD : mRn τ n R S ds) (hs : s < S) (hlen : ds.length < 24)
    (hσ : ∀ c, c ≠ 185 → c ≠ 182 → σ c = τ c) (hat : ∀ k, k < 6 → trR n (σ 182 (7 * s + 1 + k)) (a k)) (hat2 : ∀ i, (∀ k, k < 6 → i ≠ 7 * s + 1 + k) → σ 182 i = τ 182 i)
    (hω : ω = spS σ s ds.length) (hJ : cJ ω n R S C) (hF : mFr ω ρ n) (hI : mI ρ n b' R S C kl) (hV1 : ∀ j, (∀ k, k < 6 → j ≠ 6 * s + k) → V j = τ 265 j) (hV2 : ∀ k, k < 6 → V (6 * s + k) = a k) (hk1 : ∀ k, ¬ τ 265 (6 * s + k) < 0 → a k = τ 265 (6 * s + k)) (hd : τ 264 s = nI (ds.count s)) (hI2 : mI (stS ρ V s ds.length (ds.count s) (nI mm)) n b' R S C kl) : aJ (stS ρ V s ds.length (ds.count s) (nI mm)) n b' R S C kl m := by
  have hn := h.1.1.1
  have hU := h.2.2.2.2.2.2.2.1
  obtain ⟨uc, um, uv, uo, -⟩ := hU.2 hr0
  have eω : ∀ c, c < 181 ∨ 186 ≤ c → ω c = τ c := fun c hc => by
    rw [hω]
    unfold spS
    rw [up_ne (by omega), up_ne (by omega), up_ne (by omega)]
    exact hσ c (by omega) (by omega)
  have hl : ∀ c, c < 232 → ρ c = ω c := mLow_fr hF
  have hst : ∀ c, c ≠ 265 → c ≠ 274 → c ≠ 275 → c ≠ 232 → c ≠ 264 → stS ρ V s ds.length (ds.count s) (nI mm) c = ρ c := fun c c1 c2 c3 c4 c5 => by
    unfold stS
    rw [up_ne c5, up_ne c4, up_ne c3, up_ne c2, up_ne c1]
  have hρ0 : ∀ c, 232 ≤ c → hiS ρ τ c = ρ c := fun c hc => if_pos hc
  have hρl : ∀ c, c < 232 → hiS ρ τ c = τ c := fun c hc => if_neg (by omega)
  have hF0 : mFr τ (hiS ρ τ) n := by
    refine ⟨fun c hc => ?_, fun j hj => ?_, fun u hu => ?_⟩
    · by_cases q : 232 ≤ c
      · rw [hρ0 c q, hF.1 c hc]
        exact eω c (by omega)
      · exact hρl c (by omega)
    · rw [hρ0 232 (by decide), hF.2.1 j hj, eω 232 (by decide)]
    · have := hF.2.2 u hu
      rw [hρ0 233 (by decide), hρ0 234 (by decide), hρ0 235 (by decide)]
      rw [eω 233 (by decide), eω 234 (by decide), eω 235 (by decide)] at this
      exact this
  have h0 : aJ (hiS ρ τ) n b' R S C kl m := aJ_fr h hρl hF0 (mI_hi hρ0 hI)
  have hlow : ∀ c, c < 232 → stS ρ V s ds.length (ds.count s) (nI mm) c = ω c := fun c hc => (hst c (by omega) (by omega) (by omega) (by omega) (by omega)).trans (hl c hc)
  refine aJ_run2 h0 hI2 (cJ_low hlow hJ) (fun c hc => ?_) (fun c c1 c2 c3 c4 c5 => ?_) (fun j j1 j2 j3 => ?_) ?_
  · rw [hlow c (by omega), hρl c (by omega)]
    exact eω c (by omega)
  · rw [hst c c3 c4 c5 (by omega) c2, hρ0 c (by omega)]
  · rw [hρ0 232 (by decide)]
    show upd (ρ 232) 55 (nI (ds.length + 1)) j = ρ 232 j
    exact pk_un j2
  · have l181 : stS ρ V s ds.length (ds.count s) (nI mm) 181 = upd (upd (τ 181) 7 (nI (ds.length + 1))) 9 (-1) := by
      rw [hlow 181 (by decide), hω]
      show upd (upd (σ 181) 7 (nI (ds.length + 1))) 9 (-1) = _
      rw [hσ 181 (by decide) (by decide)]
    have lmv : stS ρ V s ds.length (ds.count s) (nI mm) 183 = upd (τ 183) ds.length (nI s) := by
      rw [hlow 183 (by decide), hω]
      show upd (σ 183) ds.length (nI s) = _
      rw [hσ 183 (by decide) (by decide)]
    have hat7 : σ 182 (7 * s) = nI (ds.count s) := by rw [hat2 (7 * s) (fun k hk => by omega), (uv s hs).1, hd]
    have lat : stS ρ V s ds.length (ds.count s) (nI mm) 182 = upd (σ 182) (7 * s) (nI (ds.count s + 1)) := by
      rw [hlow 182 (by decide), hω]
      show upd (σ 182) (7 * s) (σ 182 (7 * s) + Int32.ofInt 1) = _
      rw [hat7, ← nI_1]
      rfl
    have lop : stS ρ V s ds.length (ds.count s) (nI mm) 17 = τ 17 := by
      rw [hlow 17 (by decide)]
      exact eω _ (by decide)
    have l232 : stS ρ V s ds.length (ds.count s) (nI mm) 232 = upd (ρ 232) 55 (nI (ds.length + 1)) := rfl
    have ldo : stS ρ V s ds.length (ds.count s) (nI mm) 264 = upd (τ 264) s (nI (ds.count s + 1)) := by
      show upd (ρ 264) s (nI (ds.count s + 1)) = _
      rw [hF.1 264 (by decide), eω 264 (by decide)]
    have lva : stS ρ V s ds.length (ds.count s) (nI mm) 265 = V := rfl
    have lds : stS ρ V s ds.length (ds.count s) (nI mm) 274 = upd (τ 274) ds.length (nI s) := by
      show upd (ρ 274) ds.length (nI s) = _
      rw [hF.1 274 (by decide), eω 274 (by decide)]
    have lru : ρ 232 52 = τ 232 52 := by rw [hF.2.1 52 (by decide), eω 232 (by decide)]
    unfold aU
    rw [l181, lmv, lat, lop, l232, ldo, lva, lds, pk_un (show 52 ≠ 55 by decide), lru]
    refine ⟨hU.1, fun _ => ⟨rfl, fun i hi => ?_, fun s' hs' => ⟨?_, fun k hk => ?_⟩, fun s' hs' k hk ho => ?_, fun z => absurd z.symm (nI_m1 (by omega))⟩⟩
    · by_cases e : i = ds.length
      · subst e
        rw [pk_us, pk_us]
      · rw [pk_un e, pk_un e]
        refine um i ?_
        have hi' : i < fN (nI (ds.length + 1)) := hi
        rw [fN_nI (by omega)] at hi'
        rw [hD.1, fN_nI (by omega)]
        omega
    · by_cases e : s' = s
      · subst e
        rw [pk_us, pk_us]
      · rw [pk_un (by omega), pk_un e, hat2 (7 * s') (fun k hk => by omega)]
        exact (uv s' hs').1
    · rw [pk_un (by omega)]
      by_cases e : s' = s
      · subst e
        rw [hV2 k hk]
        rcases hat k hk with ⟨q1, q2⟩ | ⟨z, z1, z2, z3⟩
        · rw [q1, q2]
          rfl
        · rw [z2, z3]
          exact nnI_nI (by omega)
      · rw [hV1 (6 * s' + k) (fun k' hk' => by omega), hat2 (7 * s' + 1 + k) (fun k' hk' => by omega)]
        exact (uv s' hs').2 k hk
    · rw [pk_un (by omega)]
      by_cases e : s' = s
      · subst e
        have h1 := uo s' hs' k hk ho
        have h2 := aU_tr h hr0 hs' hk
        rw [h1] at h2
        rcases h2 with q | ⟨z, z1, z2, z3⟩
        · exact absurd q.1 ho
        · have h3 := hk1 k (by rw [z3]; exact nI_pos (by omega))
          rw [z3] at h3
          rcases hat k hk with ⟨q1, q2⟩ | ⟨w, w1, w2, w3⟩
          · rw [h3] at q2
            exact absurd (show nI z < 0 by rw [q2]; decide) (nI_pos (by omega))
          · rw [w2, z2]
            exact w3.symm.trans h3
      · rw [hat2 (7 * s' + 1 + k) (fun k' hk' => by omega)]
        exact uo s' hs' k hk ho
end
section
/-! alike: receive -/
theorem len_4 : ∀ (l : List Nat), (∀ s ∈ l, s < 4) → l.length = l.count 0 + l.count 1 + l.count 2 + l.count 3 := by
  intro l
  induction l with
  | nil => intro _; rfl
  | cons a l ih =>
    intro hl
    have h1 := ih (fun s hs => hl s (List.mem_cons_of_mem _ hs))
    have ha := hl a List.mem_cons_self
    rw [List.length_cons, h1, List.count_cons, List.count_cons, List.count_cons, List.count_cons]
    obtain rfl | rfl | rfl | rfl : a = 0 ∨ a = 1 ∨ a = 2 ∨ a = 3 := by omega
    all_goals simp
    all_goals omega
/-- where an EVENT is left there is room in the RUN -/
theorem rcv_len {σ : kS} {n b R S s r : Nat} {ds : List Nat} (h : mTb σ n b) (hR : mRo σ n R) (hS4 : S ≤ 4) (hD : mRn σ n R S ds) (hs : s < S) (r1 : r < R) (r2 : σ 255 s = nI r) (hlt : ds.count s < fN (σ 247 r)) (hlen : 24 ≤ ds.length) : False := by
  have key : ∀ s', s' < S → ds.count s' ≤ 6 := fun s' hs' => by
    obtain ⟨r', q1, q2, q3, q4, -⟩ := hD.2.2.2 s' hs'
    obtain ⟨-, ev, e1, e2⟩ := hR.2.2.1 r' q1
    rw [e2, fN_nI (by omega)] at q4
    omega
  have h6 : ds.count s < 6 := by
    obtain ⟨-, ev, e1, e2⟩ := hR.2.2.1 r r1
    rw [e2, fN_nI (by omega)] at hlt
    omega
  have hsum : ds.length = ds.count 0 + ds.count 1 + ds.count 2 + ds.count 3 := len_4 ds (fun s' hs' => by have := hD.2.2.1 s' hs'; omega)
  have hz : ∀ s', S ≤ s' → ds.count s' = 0 := fun s' hs' => List.count_eq_zero.mpr (fun hm => by have := hD.2.2.1 s' hm; omega)
  have k : ∀ s', ds.count s' ≤ 6 := fun s' => by
    by_cases q : s' < S
    · exact key s' q
    · rw [hz s' (by omega)]
      omega
  have h0 := k 0
  have h1 := k 1
  have h2 := k 2
  have h3 := k 3
  have : s = 0 ∨ s = 1 ∨ s = 2 ∨ s = 3 := by omega
  rcases this with rfl | rfl | rfl | rfl <;> omega
set_option maxRecDepth 100000 in
set_option maxHeartbeats 4000000 in
theorem bo_receive (L : Nat) (xs : Nat → Int32) (d d' m : Nat) (σ : kS) (x y : Int32) (hm : m < 2147483646) (h : bJ m σ) : kXM kT L xs (d + 56) 125 [.ref 0, .int x, .int y] σ (fun r τ => ∃ z, r = some (.int z) ∧ kXM kT L xs (d' + 8) 197 [.ref 232, .int x, .int y] τ (fun r' ω => r' = some (.int z) ∧ bJ (m + 1) ω)) := by
  have hb := bJ_up (Nat.le_succ m) h
  obtain ⟨n, b, R, S, C, kl, h⟩ := h
  have hcT := h.2.1.1
  have hT := h.1.1
  have hn := hcT.1
  have hcS := h.2.1.2.2.1
  have hS4 := hcS.1
  have hU := h.2.2.2.2.2.2.2.1
  have hRo := h.1.2.1
  have hR4 := hRo.1
  have hgr := aT_gR hT h.2.2.1.1
  have hno1 : ¬ (isN x S ∧ isN y n) → kXM kT L xs (d' + 8) 197 [.ref 232, .int x, .int y] σ (fun r' ω => r' = some (.int (-1)) ∧ bJ (m + 1) ω) := fun hz =>
    mg_receive L xs d' σ n b R S C kl x y _ h.1 (fun _ => ⟨rfl, hb⟩) (fun z1 z2 => absurd ⟨z1, z2⟩ hz) (fun s t _ _ s1 s2 t1 t2 _ _ _ _ _ => absurd ⟨⟨s, s1, s2⟩, ⟨t, t1, t2⟩⟩ hz) (fun s t _ _ _ _ _ s1 s2 t1 t2 _ _ _ _ _ _ _ _ _ _ _ _ => absurd ⟨⟨s, s1, s2⟩, ⟨t, t1, t2⟩⟩ hz) (fun s t _ _ _ _ _ _ _ _ s1 s2 t1 t2 _ _ _ _ _ _ _ _ _ _ _ _ _ _ _ _ _ _ => absurd ⟨⟨s, s1, s2⟩, ⟨t, t1, t2⟩⟩ hz)
  unfold kXM
  iterate 3 (refine kX_one rfl ?_)
  refine kX_cal (mc_hasSession L xs (d + 54) σ S x hS4 hcS.2.1) rfl (Or.inr rfl) rfl rfl rfl (fun r1 σ1 q1 => ?_)
  obtain ⟨rfl, rfl⟩ := q1
  repeat refine kX_one rfl ?_
  refine kX_if (fun q => ?_) (fun q => ?_)
  · have q : ¬ isN x S := fun z => isB_ne.mpr z (qeq q)
    repeat refine kX_one rfl ?_
    refine kX_ret (i := .ireturn) (len := 1) rfl (Or.inr rfl) rfl (⟨_, rfl, hno1 (fun z => q z.1)⟩)
  · obtain ⟨s, hs, rfl⟩ := isB_ne.mp (qeqF q)
    iterate 3 (refine kX_one rfl ?_)
    refine kX_cal (mc_has L xs (d + 54) σ n y hn hcT.2.1) rfl (Or.inr rfl) rfl rfl rfl (fun r1 σ1 q1 => ?_)
    obtain ⟨rfl, rfl⟩ := q1
    repeat refine kX_one rfl ?_
    refine kX_if (fun q => ?_) (fun q => ?_)
    rotate_left
    · have q : ¬ isN y n := fun z => isB_ne.mpr z (qneF q)
      repeat refine kX_one rfl ?_
      refine kX_ret (i := .ireturn) (len := 1) rfl (Or.inr rfl) rfl (⟨_, rfl, hno1 (fun z => q z.2)⟩)
    · obtain ⟨t, ht, rfl⟩ := isB_ne.mp (qne q)
      repeat refine kX_one rfl ?_
      refine kX_if (fun q2 => ?_) (fun q2 => ?_)
      rotate_left
      · have q2 : σ 181 8 = 0 := qneF q2
        have hr0 : σ 232 52 = 0 := Classical.byContradiction fun z => hU.1.mpr z q2
        repeat refine kX_one rfl ?_
        refine kX_ret (i := .ireturn) (len := 1) rfl (Or.inr rfl) rfl (⟨_, rfl, ?_⟩)
        exact mg_receive L xs d' σ n b R S C kl _ _ _ h.1 (fun z => absurd ⟨⟨s, hs, rfl⟩, ⟨t, ht, rfl⟩⟩ z) (fun _ _ _ => ⟨rfl, hb⟩) (fun _ _ _ _ _ _ _ _ z _ _ _ _ => absurd (z.symm.trans hr0) (by decide)) (fun _ _ _ _ _ _ _ _ _ _ _ z _ _ _ _ _ _ _ _ _ _ _ => absurd (z.symm.trans hr0) (by decide)) (fun _ _ _ _ _ _ _ _ _ _ _ _ _ _ z _ _ _ _ _ _ _ _ _ _ _ _ _ _ _ _ _ => absurd (z.symm.trans hr0) (by decide))
      · have hon : σ 181 8 ≠ 0 := qne q2
        have hr0 : σ 232 52 ≠ 0 := hU.1.mp hon
        obtain ⟨hr1, ds, hD, hBi, -⟩ := mI_ds h.1 hr0
        obtain ⟨uc, um, uv, uo, -⟩ := hU.2 hr0
        obtain ⟨r, r1, r2, r3, r4, -⟩ := hD.2.2.2 s hs
        obtain ⟨-, ev, ev1, ev2⟩ := hRo.2.2.1 r r1
        have hfe : fN (σ 247 r) = ev := by rw [ev2]; exact fN_nI (by omega)
        have hR1 := h.2.2.2.1 r r1
        have hr4 : r < 4 := by omega
        have hlenD := mRn_len hRo hS4 hD
        have hat : σ 182 (0 + 7 * s) = nI (ds.count s) := by rw [Nat.zero_add]; exact (uv s hs).1.trans r3
        have hno : ¬ (ds.count s < fN (σ 247 r) ∧ σ 249 (6 * r + ds.count s) = 0 ∧ tgd (σ 233) (σ 234) (σ 235) t = true) → kXM kT L xs (d' + 8) 197 [.ref 232, .int (nI s), .int (nI t)] σ (fun r' ω => r' = some (.int (-5)) ∧ bJ (m + 1) ω) := fun hz => by
          refine mg_receive L xs d' σ n b R S C kl _ _ _ h.1 (fun z => absurd ⟨⟨s, hs, rfl⟩, ⟨t, ht, rfl⟩⟩ z) (fun _ _ z => absurd z hr0) (fun _ _ _ _ _ _ _ _ _ _ _ _ _ => ⟨rfl, hb⟩) (fun s' t' ds' r' _ _ _ hs' es ht' et _ hD' _ er g1 g2 g3 _ _ _ _ _ => ?_) (fun s' t' ds' r' _ _ _ _ _ _ hs' es ht' et _ hD' _ er g1 g2 g3 _ _ _ _ _ _ _ _ _ _ _ => ?_)
          · obtain rfl : s = s' := nI_inj es
            obtain rfl : t = t' := nI_inj et
            obtain rfl : ds = ds' := mRn_u hRo hS4 hD hD'
            obtain rfl : r = r' := nI_inj (r2.symm.trans er)
            exact absurd ⟨g1, g2, g3⟩ hz
          · obtain rfl : s = s' := nI_inj es
            obtain rfl : t = t' := nI_inj et
            obtain rfl : ds = ds' := mRn_u hRo hS4 hD hD'
            obtain rfl : r = r' := nI_inj (r2.symm.trans er)
            exact absurd ⟨g1, g2, g3⟩ hz
        iterate 7 (refine kX_one rfl ?_)
        refine kX_cal (mf_due L xs (d + 53) σ n R S 182 28 0 s r ev (fun _ => 0) h.2.1.2.1 hS4 r1 ((h.2.2.2.2.1 s hs).1.trans r2) (hR1.2.1.trans ev2) hs ev1 rfl (by decide) (by decide)) rfl (Or.inr rfl) rfl rfl rfl (fun r1' σ1 q1 => ?_)
        obtain ⟨hq, rfl⟩ := q1
        rcases hq with ⟨rfl, hn0⟩ | ⟨k, k1, k2, rfl, -⟩
        · repeat refine kX_one rfl ?_
          refine kX_ret (i := .ireturn) (len := 1) rfl (Or.inr rfl) rfl (⟨_, rfl, hno (fun z => hn0 (ds.count s) (by rw [← hfe]; exact z.1) hat)⟩)
        obtain rfl : k = ds.count s := nI_inj (k2.symm.trans hat)
        have hk6 : ds.count s < 6 := by omega
        have hlt : ds.count s < fN (σ 247 r) := by rw [hfe]; exact k1
        have hE := hR1.2.2.2.2 (ds.count s) hlt
        obtain ⟨te, te1, te2, te3, te4⟩ := hRo.2.2.2.2.2 r (ds.count s) r1 hlt
        iterate 4 (refine kX_one rfl ?_)
        refine kX_getN rfl rfl (kT_ev hr4 hk6) rfl ?_
        repeat refine kX_one rfl ?_
        refine kX_if (fun q3 => ?_) (fun q3 => ?_)
        · have hsd : σ 249 (6 * r + ds.count s) ≠ 0 := hE.2.1.mp (qne q3)
          repeat refine kX_one rfl ?_
          refine kX_ret (i := .ireturn) (len := 1) rfl (Or.inr rfl) rfl (⟨_, rfl, hno (fun z => hsd z.2.1)⟩)
        have hsd : σ 249 (6 * r + ds.count s) = 0 := Classical.byContradiction fun z => hE.2.1.mpr z (qneF q3)
        iterate 4 (refine kX_one rfl ?_)
        refine kX_baldV rfl rfl (by decide) (t) (by first | rfl | decide) (by omega) (hgr t ht) ?_
        repeat refine kX_one rfl ?_
        refine kX_if (fun q4 => ?_) (fun q4 => ?_)
        · have q4 : ¬ kGd σ t := fun z => isB_ne.mpr z (qeq q4)
          unfold kGd at q4
          rw [aT_gd hT h.2.2.1.1 ht] at q4
          repeat refine kX_one rfl ?_
          refine kX_ret (i := .ireturn) (len := 1) rfl (Or.inr rfl) rfl (⟨_, rfl, hno (fun z => q4 z.2.2)⟩)
        have q4 : kGd σ t := isB_ne.mp (qeqF q4)
        have hgt : tgd (σ 233) (σ 234) (σ 235) t = true := by
          rw [← aT_gd hT h.2.2.1.1 ht]
          exact q4
        have ref : ∀ (π : kS) (Q : Option Value → kS → Prop), (∀ c, 232 ≤ c → π c = σ c) → (∀ b' σ', (¬ trM σ (trRun σ kl ds) (tvl (σ 233) (σ 234) (σ 235) t) ∨ mtF σ (te + 1) te t (fun k => σ 265 (6 * s + k)) = none) → mFr π σ' n → mI σ' n b' R S C kl → Q (some (.int (-5))) σ') → (∀ b' ρ V a mm, trM σ (trRun σ kl ds) (tvl (σ 233) (σ 234) (σ 235) t) → mtF σ (te + 1) te t (fun k => σ 265 (6 * s + k)) = some a → ds.length < 24 → (∀ k, ¬ σ 265 (6 * s + k) < 0 → a k = σ 265 (6 * s + k)) → mFr π ρ n → mI ρ n b' R S C kl → (∀ j, (∀ k, k < 6 → j ≠ 6 * s + k) → V j = σ 265 j) → (∀ k, k < 6 → V (6 * s + k) = a k) → mI (stS ρ V s ds.length (ds.count s) (nI mm)) n b' R S C kl → Q (some (.int (nI (ds.count s + 1)))) (stS ρ V s ds.length (ds.count s) (nI mm))) → kXM kT L xs (d' + 8) 197 [.ref 232, .int (nI s), .int (nI t)] π Q := by
          intro π Q e hB hA
          have hIp := mI_hi e h.1
          have eD : mRn π n R S ds := mRn_hi e hD
          have em : ∀ f p t a, mtF π f p t a = mtF σ f p t a := mtF_c (eqC_of e _ (by decide))
          have et : trRun π kl ds = trRun σ kl ds := trRun_hi e
          have eM : ∀ g, trM π (trRun π kl ds) g = trM σ (trRun σ kl ds) g := fun g => by
            unfold trM mA
            rw [et, e 233 (by decide), e 238 (by decide)]
          refine mg_receive L xs d' π n b R S C kl _ _ _ hIp (fun z => absurd ⟨⟨s, hs, rfl⟩, ⟨t, ht, rfl⟩⟩ z) (fun _ _ z => absurd ((congrFun (e 232 (by decide)) _).symm.trans z) hr0) (fun s' t' ds' r' hs' es ht' et' _ hD' _ er hz => ?_) (fun s' t' ds' r' te' b' σ' hs' es ht' et' _ hD' _ er _ _ _ _ ete hz hF hI => ?_) (fun s' t' ds' r' te' b' ρ V a mm hs' es ht' et' _ hD' _ er _ _ _ _ ete hz hmt hln hkk hF hI hV1 hV2 hI2 => ?_)
          · obtain rfl : s = s' := nI_inj es
            obtain rfl : t = t' := nI_inj et'
            obtain rfl : ds = ds' := mRn_u hIp.2.1 hS4 eD hD'
            rw [e 255 (by decide)] at er
            obtain rfl : r = r' := nI_inj (r2.symm.trans er)
            rw [e 247 (by decide), e 249 (by decide), e 233 (by decide), e 234 (by decide), e 235 (by decide)] at hz
            exact absurd ⟨hlt, hsd, hgt⟩ hz
          · obtain rfl : s = s' := nI_inj es
            obtain rfl : t = t' := nI_inj et'
            obtain rfl : ds = ds' := mRn_u hIp.2.1 hS4 eD hD'
            rw [e 255 (by decide)] at er
            obtain rfl : r = r' := nI_inj (r2.symm.trans er)
            rw [e 248 (by decide)] at ete
            obtain rfl : te = te' := nI_inj (te2.symm.trans ete)
            rw [eM, em, e 233 (by decide), e 234 (by decide), e 235 (by decide), e 265 (by decide)] at hz
            exact hB b' σ' hz hF hI
          · obtain rfl : s = s' := nI_inj es
            obtain rfl : t = t' := nI_inj et'
            obtain rfl : ds = ds' := mRn_u hIp.2.1 hS4 eD hD'
            rw [e 255 (by decide)] at er
            obtain rfl : r = r' := nI_inj (r2.symm.trans er)
            rw [e 248 (by decide)] at ete
            obtain rfl : te = te' := nI_inj (te2.symm.trans ete)
            rw [eM, e 233 (by decide), e 234 (by decide), e 235 (by decide)] at hz
            rw [em, e 265 (by decide)] at hmt
            rw [e 265 (by decide)] at hkk hV1
            exact hA b' ρ V a mm hz hmt hln hkk hF hI hV1 hV2 hI2
        iterate 2 (refine kX_one rfl ?_)
        refine kX_cal (mf_intruder L xs d σ σ n b R S C m kl ds (vw_refl σ) h hm hr0 hD) rfl (Or.inr rfl) rfl rfl rfl (fun r1' τ q1 => ?_)
        obtain ⟨rfl, u, m', l, hm', hQ⟩ := q1
        have hEt := hQ.2.2.2.1
        have hgd : kGd τ t := by
          have h2 := hQ.2.2.2.2.2.1 t ht
          rw [inQ_cell hQ (c := 8) (by decide) (by decide) (by decide) (by decide), hgr t ht, isB_T q4] at h2
          exact isB_1.mp h2.symm
        iterate 2 (refine kX_one rfl ?_)
        refine kX_cal (mf_canMake L xs 186 200 n u m' l 49 (d + 4) 0 τ t rfl (by have := hEt.2.2.2.2.2.2.2.2.1 t ht; omega) hEt (Or.inl ht) hgd) rfl (Or.inr rfl) rfl rfl rfl (fun r1' ω q1 => ?_)
        obtain ⟨rfl, M, hω, hE2⟩ := q1
        subst hω
        have hQ2 := inQ_mk hQ hE2
        have hJ2 := inQ_J h hr0 hD hQ2 hm'
        have e : ∀ c, 232 ≤ c → va_up τ 192 M c = σ c := fun c hc => inQ_cell hQ2 (by omega) (by omega) (by omega) (by omega)
        have hkk := kMk_tr hT hQ ht
        have hcell : va_up τ 192 M (28 + 35 * r + 5 * ds.count s) = σ (28 + 35 * r + 5 * ds.count s) := inQ_cell hQ2 (by omega) (by omega) (by omega) (by omega)
        generalize va_up τ 192 M = ω at hQ2 hJ2 e hcell ⊢
        by_cases hmk : kMk τ l t
        rotate_left
        · rw [isB_F hmk]
          repeat refine kX_one rfl ?_
          refine kX_ret (i := .ireturn) (len := 1) rfl (Or.inr rfl) rfl (⟨_, rfl, ref ω _ e (fun b' σ' _ hF hI => ⟨rfl, bJ_fr hJ2 (mLow_fr hF) hF hI⟩) (fun _ _ _ _ _ hz => absurd (hkk.mpr hz) hmk)⟩)
        rw [isB_T hmk]
        have hrω : ω 232 52 ≠ 0 := by rw [e 232 (by decide)]; exact hr0
        have hDω := mRn_hi e hD
        iterate 6 (refine kX_one rfl ?_)
        refine kX_cal (mf_accepts L xs (d + 3) ω n b S s r (ds.count s) te t hJ2.2.1.1 hJ2.1.1 hJ2.2.2.1.1 hS4 hs hr4 hk6 ht te1 (by rw [e 233 (by decide), e 234 (by decide), e 235 (by decide)]; exact hgt) (by rw [hcell]; exact hE.1.trans te2) (fun k hk => aU_tr hJ2 hrω hs hk)) rfl (Or.inr rfl) rfl rfl rfl (fun r1' ρ q1 => ?_)
        obtain ⟨hρ, hq⟩ := q1
        have eρ : ∀ c, 232 ≤ c → ρ c = σ c := fun c hc => (hρ c (by omega) (by omega)).trans (e c hc)
        have emt : mtF ω (te + 1) te t (fun k => ω 265 (6 * s + k)) = mtF σ (te + 1) te t (fun k => σ 265 (6 * s + k)) := by rw [mtF_c (eqC_of e _ (by decide)), e 265 (by decide)]
        rw [emt] at hq
        rcases hq with ⟨hmt, rfl, hat0⟩ | ⟨a, hmt, rfl, hat1, hat2⟩
        · have eρω : ∀ c, c ≠ 185 → ρ c = ω c := fun c hc => by
            by_cases z : c = 182
            · subst z
              exact hat0
            · exact hρ c hc z
          have hJ3 : aJ ρ n b R S C kl (m + 1) := by
            have hU3 : aU ρ n S kl := by
              have hU2 := hJ2.2.2.2.2.2.2.2.1
              unfold aU at hU2 ⊢
              rw [eρω 181 (by decide), eρω 17 (by decide), eρω 183 (by decide), eρω 182 (by decide), eρω 232 (by decide), eρω 274 (by decide), eρω 264 (by decide), eρω 265 (by decide)]
              refine ⟨hU2.1, fun q => ?_⟩
              obtain ⟨g1, g2, g3, g5, g4⟩ := hU2.2 q
              refine ⟨g1, g2, g3, g5, fun hg => ?_⟩
              obtain ⟨ds', d1, d2, d4, d5, d3⟩ := g4 hg
              refine ⟨ds', d1, d2, d4, d5, ?_⟩
              rw [trRun_hi (fun c hc => eρω c (by omega))]
              exact kOk_eq (fun c c1 c2 => eρω c (by omega)) (fun c c1 c2 => eρω c (by omega)) (fun t _ => by rw [eρω 233 (by decide)]) (eρω _ (by decide)) d3
            refine aJ_run2 hJ2 (mI_hi (fun c hc => hρ c (by omega) (by omega)) hJ2.1) ?_ (fun c hc => hρ c (by omega) (by omega)) (fun c c1 _ _ _ _ => hρ c (by omega) (by omega)) (fun j _ _ _ => by rw [hρ 232 (by decide) (by decide)]) hU3
            refine cJ_run hJ2.2.1 (fun c hc => hρ c (by omega) (by omega)) ?_
            have hRu := hJ2.2.1.2.2.2.2.2.2.2.2.1
            unfold cRu at hRu ⊢
            rw [eρω 181 (by decide), eρω 183 (by decide), eρω 182 (by decide), eρω 186 (by decide)]
            unfold cV cKg cKc at hRu ⊢
            rw [eρω 8 (by decide), eρω 3 (by decide), eρω 4 (by decide)]
            exact hRu
          repeat refine kX_one rfl ?_
          refine kX_ret (i := .ireturn) (len := 1) rfl (Or.inr rfl) rfl (⟨_, rfl, ref ρ _ eρ (fun b' σ' _ hF hI => ⟨rfl, bJ_fr hJ3 (mLow_fr hF) hF hI⟩) (fun _ _ _ a _ _ hz => absurd (hmt.symm.trans hz) (by simp))⟩)
        · obtain ⟨b1, b2, b3⟩ := mSn_iff hT hRo (hD.2.2.2 s hs) r2 r1
          obtain ⟨k1', k2', -, -⟩ := mtF_ok hT hRo r1 (te + 1) te t _ a te1 ht hgt te3 (fun k hk hne => by
            by_cases hb' : bdv σ r (ds.count s) k
            · exact (b3 k hk).1 hb'
            · exact absurd (by rw [(b3 k hk).2 hb']; decide) hne) hmt
          have egr : ω 8 = σ 8 := inQ_cell hQ2 (by decide) (by decide) (by decide) (by decide)
          have hRu := hJ2.2.1.2.2.2.2.2.2.2.2.1
          have honω : ω 181 8 ≠ 0 := by rw [hQ2.2.1 _ (by decide)]; exact hon
          have e181 : ρ 181 = ω 181 := hρ _ (by decide) (by decide)
          rcases hRu with hRu | ⟨on1, cnt, hcV, hgf⟩
          · exact absurd hRu honω
          have hcV2 : cV ω n S (ρ 182) 0 := fun s' k' hs' hk' => by
            rw [show 0 + 7 * s' + 1 + k' = 7 * s' + 1 + k' by omega]
            by_cases z : s' = s
            · subst z
              rcases hat1 k' hk' with q | ⟨w, w1, w2, w3⟩
              · exact Or.inl q.1
              · refine Or.inr ⟨w, w1, w2, ?_⟩
                obtain ⟨w', v1, v2, v3, -⟩ := k2' k' hk' (by rw [w3]; exact nI_pos (by omega))
                obtain rfl : w = w' := nI_inj (w3.symm.trans v2)
                rw [egr, hgr w w1]
                refine isB_T ?_
                unfold kGd
                rw [aT_gd hT h.2.2.1.1 w1]
                exact v3
            · rw [hat2 (7 * s' + 1 + k') (fun k hk => by omega)]
              have := hcV s' k' hs' hk'
              rw [show 0 + 7 * s' + 1 + k' = 7 * s' + 1 + k' by omega] at this
              exact this
          have eρω : ∀ c, c < 181 ∨ 186 ≤ c → ρ c = ω c := fun c hc => hρ c (by omega) (by omega)
          have hgrω : ∀ z, z < n → ρ 8 z = ω 8 z := fun z _ => by rw [eρω _ (by decide)]
          have hJρ : cJ ρ n R S C := by
            refine cJ_run hJ2.2.1 eρω (Or.inr ⟨by rw [e181]; exact on1, by rw [e181, hρ 183 (by decide) (by decide)]; exact cnt, cV_eq hgrω hcV2, ?_⟩)
            rw [e181, eρω 186 (by decide)]
            rcases hgf with z | ⟨g, z1, z2, z3⟩
            · exact Or.inl z
            · refine Or.inr ⟨g, z1, z2, fun hg => ?_⟩
              obtain ⟨u, u1, u2, u3⟩ := z3 hg
              exact ⟨u, u1, u2, cKg_eq hgrω (fun g _ _ => by rw [eρω 3 (by decide), eρω 4 (by decide)]; exact ⟨rfl, rfl⟩) u3⟩
          have hUω := (hJ2.2.2.2.2.2.2.2.1.2 hrω)
          have hlen24 : ds.length < 24 := by
            exact Classical.byContradiction fun hz => rcv_len hT hRo hS4 hD hs r1 r2 hlt (by omega)
          iterate 4 (refine kX_one rfl ?_)
          refine kX_cal (mf_step L xs (d + 54) ρ n R S C s ds.length hJρ (by rw [e181]; exact honω) hs hlen24 (by rw [e181, hUω.1]; exact (congrFun (e 232 (by decide)) _).trans hD.1)) rfl (Or.inr rfl) rfl rfl rfl (fun r1' π q1 => ?_)
          obtain ⟨rfl, hπ, hJπ⟩ := q1
          iterate 7 (refine kX_one rfl ?_)
          refine kX_cal (mc_doneBy L xs (d + 54) π 182 28 0 s (fun _ => 0) rfl (by decide) (by omega)) rfl (Or.inr rfl) rfl rfl rfl (fun r1 σ1 q1 => ?_)
          obtain ⟨rfl, rfl⟩ := q1
          have hv7 : π 182 (0 + 7 * s) = nI (ds.count s + 1) := by
            rw [hπ, Nat.zero_add]
            show upd (ρ 182) (7 * s) (ρ 182 (7 * s) + Int32.ofInt 1) (7 * s) = _
            rw [pk_us, hat2 (7 * s) (fun k hk => by omega), (hUω.2.2.1 s hs).1, e 264 (by decide), r3, ← nI_1]
            rfl
          have eπ : ∀ c, 232 ≤ c → π c = σ c := fun c hc => by
            rw [hπ]
            unfold spS
            rw [up_ne (by omega), up_ne (by omega), up_ne (by omega)]
            exact eρ c hc
          refine kX_top (y := nI (ds.count s + 1)) hv7 ?_
          refine kX_ret (i := .ireturn) (len := 1) rfl (Or.inr rfl) rfl (⟨_, rfl, ref π _ eπ (fun b' σ' hz _ _ => ?_) (fun b' ρ' V a' mm _ hmt' _ hkk' hF hI hV1 hV2 hI2 => ?_)⟩)
          · rcases hz with hz | hz
            · exact absurd (hkk.mp hmk) hz
            · exact absurd (hmt.symm.trans hz) (by simp)
          · obtain rfl : a = a' := Option.some.inj (hmt.symm.trans hmt')
            refine ⟨rfl, ⟨n, b', R, S, C, kl, aJ_recv (σ := ρ) (ω := π) (r := r) (k := 0) hJ2 hrω hDω hs hlen24 hρ hat1 hat2 hπ hJπ hF hI (by rw [e 265 (by decide)]; exact hV1) hV2 (by rw [e 265 (by decide)]; exact hkk') (by rw [e 264 (by decide)]; exact r3) hI2⟩⟩
end
section
/-! alike: the order in which TERMS get numbers -/
/-- what has no number in g, each behind what it is of, behind acc -/
noncomputable def poT (N : Jvm.Term → Prop) : Jvm.Term → List Jvm.Term → List Jvm.Term
  | .add a b, acc => cit (N (.add a b) ∨ .add a b ∈ acc) acc (poT N b (poT N a acc) ++ [.add a b])
  | .sub a b, acc => cit (N (.sub a b) ∨ .sub a b ∈ acc) acc (poT N b (poT N a acc) ++ [.sub a b])
  | .mul a b, acc => cit (N (.mul a b) ∨ .mul a b ∈ acc) acc (poT N b (poT N a acc) ++ [.mul a b])
  | .div a b, acc => cit (N (.div a b) ∨ .div a b ∈ acc) acc (poT N b (poT N a acc) ++ [.div a b])
  | .sum a, acc => cit (N (.sum a) ∨ .sum a ∈ acc) acc (poT N a acc ++ [.sum a])
  | .length a, acc => cit (N (.length a) ∨ .length a ∈ acc) acc (poT N a acc ++ [.length a])
  | _, acc => acc
section PO
variable {N : Jvm.Term → Prop}
theorem poT_2 {k : Nat} (hk : k = 4 ∨ k = 5 ∨ k = 6 ∨ k = 8) (a b : Jvm.Term) (acc : List Jvm.Term) : poT N (vnd k a (some b)) acc = cit (N (vnd k a (some b)) ∨ vnd k a (some b) ∈ acc) acc (poT N b (poT N a acc) ++ [vnd k a (some b)]) := by
  rcases hk with rfl | rfl | rfl | rfl <;> rfl
theorem poT_1 {k : Nat} (hk : k = 7 ∨ k = 9) (a : Jvm.Term) (acc : List Jvm.Term) : poT N (vnd k a none) acc = cit (N (vnd k a none) ∨ vnd k a none ∈ acc) acc (poT N a acc ++ [vnd k a none]) := by
  rcases hk with rfl | rfl <;> rfl
theorem poT_in {g : Jvm.Term} {acc : List Jvm.Term} (h : N g ∨ g ∈ acc) : poT N g acc = acc := by
  cases g <;> first | rfl | exact cit_T h
theorem poT_pre : ∀ (g : Jvm.Term) (acc : List Jvm.Term), ∃ r, poT N g acc = acc ++ r := by
  intro g
  have two : ∀ (a b g : Jvm.Term) (acc : List Jvm.Term), (∀ acc, ∃ r, poT N a acc = acc ++ r) → (∀ acc, ∃ r, poT N b acc = acc ++ r) → ∃ r, cit (N g ∨ g ∈ acc) acc (poT N b (poT N a acc) ++ [g]) = acc ++ r := fun a b g acc ha hb => by
    by_cases h : N g ∨ g ∈ acc
    · exact ⟨[], by rw [cit_T h, List.append_nil]⟩
    · obtain ⟨r1, e1⟩ := ha acc
      obtain ⟨r2, e2⟩ := hb (acc ++ r1)
      exact ⟨r1 ++ r2 ++ [g], by rw [cit_F h, e1, e2]; simp⟩
  have one : ∀ (a g : Jvm.Term) (acc : List Jvm.Term), (∀ acc, ∃ r, poT N a acc = acc ++ r) → ∃ r, cit (N g ∨ g ∈ acc) acc (poT N a acc ++ [g]) = acc ++ r := fun a g acc ha => by
    by_cases h : N g ∨ g ∈ acc
    · exact ⟨[], by rw [cit_T h, List.append_nil]⟩
    · obtain ⟨r1, e1⟩ := ha acc
      exact ⟨r1 ++ [g], by rw [cit_F h, e1]; simp⟩
  induction g with
  | add a b ha hb => exact fun acc => two a b _ acc ha hb
  | sub a b ha hb => exact fun acc => two a b _ acc ha hb
  | mul a b ha hb => exact fun acc => two a b _ acc ha hb
  | div a b ha hb => exact fun acc => two a b _ acc ha hb
  | sum a ha => exact fun acc => one a _ acc ha
  | length a ha => exact fun acc => one a _ acc ha
  | _ => exact fun acc => ⟨[], (List.append_nil _).symm⟩
theorem poT_mono {g h : Jvm.Term} {acc : List Jvm.Term} (hm : h ∈ acc) : h ∈ poT N g acc := by
  obtain ⟨r, e⟩ := poT_pre (N := N) g acc
  rw [e]
  exact List.mem_append_left _ hm
theorem poT_len {g : Jvm.Term} {acc : List Jvm.Term} : acc.length ≤ (poT N g acc).length := by
  obtain ⟨r, e⟩ := poT_pre (N := N) g acc
  rw [e, List.length_append]
  omega
/-- what comes is not larger -/
theorem poT_sz : ∀ (g h : Jvm.Term) (acc : List Jvm.Term), h ∈ poT N g acc → h ∈ acc ∨ vsz h ≤ vsz g := by
  intro g
  have two : ∀ (a b g h : Jvm.Term) (acc : List Jvm.Term), (∀ h acc, h ∈ poT N a acc → h ∈ acc ∨ vsz h ≤ vsz a) → (∀ h acc, h ∈ poT N b acc → h ∈ acc ∨ vsz h ≤ vsz b) → vsz a ≤ vsz g → vsz b ≤ vsz g → h ∈ cit (N g ∨ g ∈ acc) acc (poT N b (poT N a acc) ++ [g]) → h ∈ acc ∨ vsz h ≤ vsz g := fun a b g h acc ha hb h1 h2 hm => by
    by_cases hh : N g ∨ g ∈ acc
    · rw [cit_T hh] at hm
      exact Or.inl hm
    · rw [cit_F hh] at hm
      rcases List.mem_append.mp hm with q | q
      · rcases hb h _ q with z | z
        · rcases ha h _ z with y | y
          · exact Or.inl y
          · exact Or.inr (by omega)
        · exact Or.inr (by omega)
      · rw [List.mem_singleton] at q
        subst q
        exact Or.inr (Nat.le_refl _)
  have one : ∀ (a g h : Jvm.Term) (acc : List Jvm.Term), (∀ h acc, h ∈ poT N a acc → h ∈ acc ∨ vsz h ≤ vsz a) → vsz a ≤ vsz g → h ∈ cit (N g ∨ g ∈ acc) acc (poT N a acc ++ [g]) → h ∈ acc ∨ vsz h ≤ vsz g := fun a g h acc ha h1 hm => by
    by_cases hh : N g ∨ g ∈ acc
    · rw [cit_T hh] at hm
      exact Or.inl hm
    · rw [cit_F hh] at hm
      rcases List.mem_append.mp hm with q | q
      · rcases ha h _ q with y | y
        · exact Or.inl y
        · exact Or.inr (by omega)
      · rw [List.mem_singleton] at q
        subst q
        exact Or.inr (Nat.le_refl _)
  induction g with
  | add a b ha hb => exact fun h acc => two a b _ h acc ha hb (by simp only [vsz]; omega) (by simp only [vsz]; omega)
  | sub a b ha hb => exact fun h acc => two a b _ h acc ha hb (by simp only [vsz]; omega) (by simp only [vsz]; omega)
  | mul a b ha hb => exact fun h acc => two a b _ h acc ha hb (by simp only [vsz]; omega) (by simp only [vsz]; omega)
  | div a b ha hb => exact fun h acc => two a b _ h acc ha hb (by simp only [vsz]; omega) (by simp only [vsz]; omega)
  | sum a ha => exact fun h acc => one a _ h acc ha (by simp only [vsz]; omega)
  | length a ha => exact fun h acc => one a _ h acc ha (by simp only [vsz]; omega)
  | _ => exact fun h acc hm => Or.inl hm
/-- g itself has a number or comes -/
theorem poT_self2 {k : Nat} (hk : k = 4 ∨ k = 5 ∨ k = 6 ∨ k = 8) (a b : Jvm.Term) (acc : List Jvm.Term) : N (vnd k a (some b)) ∨ vnd k a (some b) ∈ poT N (vnd k a (some b)) acc := by
  rw [poT_2 hk]
  by_cases h : N (vnd k a (some b)) ∨ vnd k a (some b) ∈ acc
  · rw [cit_T h]
    exact h
  · rw [cit_F h]
    exact Or.inr (by simp)
theorem poT_self1 {k : Nat} (hk : k = 7 ∨ k = 9) (a : Jvm.Term) (acc : List Jvm.Term) : N (vnd k a none) ∨ vnd k a none ∈ poT N (vnd k a none) acc := by
  rw [poT_1 hk]
  by_cases h : N (vnd k a none) ∨ vnd k a none ∈ acc
  · rw [cit_T h]
    exact h
  · rw [cit_F h]
    exact Or.inr (by simp)
/-- a stack that still waits, its top last -/
noncomputable def fiT (N : Jvm.Term → Prop) (sk l : List Jvm.Term) : List Jvm.Term := sk.foldr (poT N) l
theorem fiT_snoc {sk l : List Jvm.Term} {x : Jvm.Term} : fiT N (sk ++ [x]) l = fiT N sk (poT N x l) := by
  unfold fiT
  rw [List.foldr_append]
  rfl
/-- the first waits -/
theorem po_push1 {k : Nat} (hk : k = 4 ∨ k = 5 ∨ k = 6 ∨ k = 8) {a b : Jvm.Term} {l : List Jvm.Term} (h1 : ¬ N (vnd k a (some b))) (h2 : vnd k a (some b) ∉ l) (hs : N a ∨ a ∈ poT N a l) : poT N (vnd k a (some b)) (poT N a l) = poT N (vnd k a (some b)) l := by
  have h3 : vnd k a (some b) ∉ poT N a l := fun q => by
    rcases poT_sz a _ l q with z | z
    · exact h2 z
    · rw [vsz_nd2] at z
      omega
  rw [poT_2 hk, poT_2 hk, cit_F (not_or.mpr ⟨h1, h3⟩), cit_F (not_or.mpr ⟨h1, h2⟩), poT_in hs]
/-- the second waits -/
theorem po_push2 {k : Nat} (hk : k = 4 ∨ k = 5 ∨ k = 6 ∨ k = 8) {a b : Jvm.Term} {l : List Jvm.Term} (h1 : ¬ N (vnd k a (some b))) (h2 : vnd k a (some b) ∉ l) (ha : N a ∨ a ∈ l) (hs : N b ∨ b ∈ poT N b l) : poT N (vnd k a (some b)) (poT N b l) = poT N (vnd k a (some b)) l := by
  have h3 : vnd k a (some b) ∉ poT N b l := fun q => by
    rcases poT_sz b _ l q with z | z
    · exact h2 z
    · rw [vsz_nd2] at z
      omega
  rw [poT_2 hk, poT_2 hk, cit_F (not_or.mpr ⟨h1, h3⟩), cit_F (not_or.mpr ⟨h1, h2⟩), poT_in (acc := poT N b l) (ha.imp id poT_mono), poT_in hs, poT_in ha]
theorem po_ord2 {k : Nat} (hk : k = 4 ∨ k = 5 ∨ k = 6 ∨ k = 8) {a b : Jvm.Term} {l : List Jvm.Term} (h1 : ¬ N (vnd k a (some b))) (h2 : vnd k a (some b) ∉ l) (ha : N a ∨ a ∈ l) (hb : N b ∨ b ∈ l) : poT N (vnd k a (some b)) l = l ++ [vnd k a (some b)] := by
  rw [poT_2 hk, cit_F (not_or.mpr ⟨h1, h2⟩), poT_in ha, poT_in hb]
theorem po_pushA {k : Nat} (hk : k = 7 ∨ k = 9) {a : Jvm.Term} {l : List Jvm.Term} (h1 : ¬ N (vnd k a none)) (h2 : vnd k a none ∉ l) (hs : N a ∨ a ∈ poT N a l) : poT N (vnd k a none) (poT N a l) = poT N (vnd k a none) l := by
  have h3 : vnd k a none ∉ poT N a l := fun q => by
    rcases poT_sz a _ l q with z | z
    · exact h2 z
    · rw [vsz_nd1] at z
      omega
  rw [poT_1 hk, poT_1 hk, cit_F (not_or.mpr ⟨h1, h3⟩), cit_F (not_or.mpr ⟨h1, h2⟩), poT_in hs]
theorem po_ord1 {k : Nat} (hk : k = 7 ∨ k = 9) {a : Jvm.Term} {l : List Jvm.Term} (h1 : ¬ N (vnd k a none)) (h2 : vnd k a none ∉ l) (ha : N a ∨ a ∈ l) : poT N (vnd k a none) l = l ++ [vnd k a none] := by
  rw [poT_1 hk, cit_F (not_or.mpr ⟨h1, h2⟩), poT_in ha]
end PO
end
section
/-! alike: findOrder -/
abbrev mtv (σ : kS) (t : Nat) : Jvm.Term := tvl (σ 233) (σ 234) (σ 235) t
/-- a tree that has a number -/
def numN (σ : kS) (n : Nat) (g : Jvm.Term) : Prop := ∃ t, t < n ∧ mtv σ t = g
/-- what findOrder still has to do -/
def foF (σ : kS) (n t : Nat) (sk l : List Nat) : Prop := fiT (numN σ n) (sk.map (mtv σ)) (l.map (mtv σ)) = poT (numN σ n) (mtv σ t) []
section FOF
variable {σ : kS} {n b : Nat}
theorem mtv_inj (h : mTb σ n b) {t u : Nat} (ht : mv n b t) (hu : mv n b u) (e : mtv σ t = mtv σ u) : t = u := tvl_inj h.2.2.2.2.2.1.1 h.2.2.2.2.2.1.2.2 t u ht hu e
theorem numN_hi (h : mTb σ n b) {x : Nat} (x1 : 200 ≤ x) (x2 : x < b) : ¬ numN σ n (mtv σ x) := fun ⟨t, t1, t2⟩ => by
  have := mtv_inj h (Or.inl t1) (Or.inr ⟨x1, x2⟩) t2
  have := h.1
  omega
theorem mem_tv (h : mTb σ n b) {l : List Nat} {x : Nat} (hx : mv n b x) (h1 : ∀ y ∈ l, 200 ≤ y) (h2 : ∀ y ∈ l, y < b) (hm : mtv σ x ∈ l.map (mtv σ)) : x ∈ l := by
  obtain ⟨y, y1, y2⟩ := List.mem_map.mp hm
  have := mtv_inj h (Or.inr ⟨h1 y y1, h2 y y1⟩) hx y2
  exact this ▸ y1
theorem tv_self (h : mTb σ n b) {y : Nat} (hy : mv n b y) (l : List Jvm.Term) : numN σ n (mtv σ y) ∨ mtv σ y ∈ poT (numN σ n) (mtv σ y) l := by
  by_cases q : y < n
  · exact Or.inl ⟨y, q, rfl⟩
  · have hy2 : 200 ≤ y ∧ y < b := by unfold mv at hy; omega
    have hk := h.2.2.2.2.2.2.2.2.1 y hy2.1 hy2.2
    have hV := h.2.2.2.2.2.1.1
    rcases (hV y hy).2 with ⟨k, h3, hk', -, -⟩ | ⟨k, p, z, h3, hk', hp, hz, h4, h5, h6, h7⟩ | ⟨k, p, h3, hk', hp, hz, h4, h6⟩
    · rw [hk', fN_nI (by omega)] at hk
      omega
    · unfold mtv
      rw [tvl_2 hV hk' hp hz (by omega) (by omega) h4 h5 h6 h7]
      exact poT_self2 (by omega) _ _ _
    · unfold mtv
      rw [tvl_1 hV hk' hp hz (by omega) (by omega) h4 h6]
      exact poT_self1 (by omega) _ _
/-- x of the stretch: what it is of -/
theorem tv_of (h : mTb σ n b) {x : Nat} (x1 : 200 ≤ x) (x2 : x < b) : (∃ k p z, (k = 4 ∨ k = 5 ∨ k = 6 ∨ k = 8) ∧ σ 234 x = nI p ∧ σ 235 x = nI z ∧ p < x ∧ z < x ∧ mv n b p ∧ mv n b z ∧ mtv σ x = vnd k (mtv σ p) (some (mtv σ z))) ∨ ∃ k p, (k = 7 ∨ k = 9) ∧ σ 234 x = nI p ∧ σ 235 x = -1 ∧ p < x ∧ mv n b p ∧ mtv σ x = vnd k (mtv σ p) none := by
  have hk := h.2.2.2.2.2.2.2.2.1 x x1 x2
  have hV := h.2.2.2.2.2.1.1
  rcases (hV x (Or.inr ⟨x1, x2⟩)).2 with ⟨k, h3, hk', -, -⟩ | ⟨k, p, z, h3, hk', hp, hz, h4, h5, h6, h7⟩ | ⟨k, p, h3, hk', hp, hz, h4, h6⟩
  · rw [hk', fN_nI (by omega)] at hk
    omega
  · exact Or.inl ⟨k, p, z, by omega, hp, hz, h4, h5, h6, h7, tvl_2 hV hk' hp hz (by omega) (by omega) h4 h5 h6 h7⟩
  · exact Or.inr ⟨k, p, by omega, hp, hz, h4, h6, tvl_1 hV hk' hp hz (by omega) (by omega) h4 h6⟩
theorem foF_1 (h : mTb σ n b) {t x z : Nat} {s l : List Nat} (hX : foF σ n t (s ++ [x]) l) (x1 : 200 ≤ x) (x2 : x < b) (x4 : x ∉ l) (l1 : ∀ y ∈ l, 200 ≤ y) (l2 : ∀ y ∈ l, y < b) (z2 : z < x) (z5 : σ 234 x = nI z) : foF σ n t (s ++ [x] ++ [z]) l := by
  have hb1 := h.2.2.1
  have hN := numN_hi h x1 x2
  have hM : mtv σ x ∉ l.map (mtv σ) := fun q => x4 (mem_tv h (Or.inr ⟨x1, x2⟩) l1 l2 q)
  unfold foF at hX ⊢
  rw [List.map_append, List.map_singleton, fiT_snoc] at hX ⊢
  rw [List.map_append, List.map_singleton, fiT_snoc, ← hX]
  refine congrArg (fiT _ _) ?_
  rcases tv_of h x1 x2 with ⟨k, p, y, hk, hp, hy, h4, h5, h6, h7, e⟩ | ⟨k, p, hk, hp, hy, h4, h6, e⟩
  · obtain rfl : p = z := nI_inj (hp.symm.trans z5)
    rw [e] at hN hM ⊢
    exact po_push1 hk hN hM (tv_self h h6 _)
  · obtain rfl : p = z := nI_inj (hp.symm.trans z5)
    rw [e] at hN hM ⊢
    exact po_pushA hk hN hM (tv_self h h6 _)
/-- what is not open -/
theorem tv_cl (h : mTb σ n b) {p : Nat} {l : List Nat} (hp : mv n b p) (hc : 200 ≤ p → p ∈ l) : numN σ n (mtv σ p) ∨ mtv σ p ∈ l.map (mtv σ) := by
  by_cases q : p < n
  · exact Or.inl ⟨p, q, rfl⟩
  · exact Or.inr (List.mem_map.mpr ⟨p, hc (by unfold mv at hp; omega), rfl⟩)
theorem foF_2 (h : mTb σ n b) {t x z : Nat} {s l : List Nat} (hX : foF σ n t (s ++ [x]) l) (x1 : 200 ≤ x) (x2 : x < b) (x4 : x ∉ l) (l1 : ∀ y ∈ l, 200 ≤ y) (l2 : ∀ y ∈ l, y < b) (hfi : ∀ y, 200 ≤ y → σ 234 x = nI y → y < 1000 → y ∈ l) (z2 : z < x) (z5 : σ 235 x = nI z) : foF σ n t (s ++ [x] ++ [z]) l := by
  have hb1 := h.2.2.1
  have hN := numN_hi h x1 x2
  have hM : mtv σ x ∉ l.map (mtv σ) := fun q => x4 (mem_tv h (Or.inr ⟨x1, x2⟩) l1 l2 q)
  unfold foF at hX ⊢
  rw [List.map_append, List.map_singleton, fiT_snoc] at hX ⊢
  rw [List.map_append, List.map_singleton, fiT_snoc, ← hX]
  refine congrArg (fiT _ _) ?_
  rcases tv_of h x1 x2 with ⟨k, p, y, hk, hp, hy, h4, h5, h6, h7, e⟩ | ⟨k, p, hk, hp, hy, h4, h6, e⟩
  · obtain rfl : y = z := nI_inj (hy.symm.trans z5)
    rw [e] at hN hM ⊢
    exact po_push2 hk hN hM (tv_cl h h6 (fun q => hfi p q hp (by omega))) (tv_self h h7 _)
  · exact absurd (z5.symm.trans hy) (nI_m1 (by omega))
theorem foF_o (h : mTb σ n b) {t x : Nat} {s l : List Nat} (hX : foF σ n t (s ++ [x]) l) (x1 : 200 ≤ x) (x2 : x < b) (x4 : x ∉ l) (l1 : ∀ y ∈ l, 200 ≤ y) (l2 : ∀ y ∈ l, y < b) (hcl : ∀ y, 200 ≤ y → (σ 234 x = nI y ∨ σ 235 x = nI y) → y < 1000 → y ∈ l) : foF σ n t s (l ++ [x]) := by
  have hb1 := h.2.2.1
  have hN := numN_hi h x1 x2
  have hM : mtv σ x ∉ l.map (mtv σ) := fun q => x4 (mem_tv h (Or.inr ⟨x1, x2⟩) l1 l2 q)
  unfold foF at hX ⊢
  rw [List.map_append, List.map_singleton, fiT_snoc] at hX
  rw [List.map_append, List.map_singleton, ← hX]
  refine congrArg (fiT _ _) ?_
  rcases tv_of h x1 x2 with ⟨k, p, y, hk, hp, hy, h4, h5, h6, h7, e⟩ | ⟨k, p, hk, hp, hy, h4, h6, e⟩
  · rw [e] at hN hM ⊢
    exact (po_ord2 hk hN hM (tv_cl h h6 (fun q => hcl p q (Or.inl hp) (by omega))) (tv_cl h h7 (fun q => hcl y q (Or.inr hy) (by omega)))).symm
  · rw [e] at hN hM ⊢
    exact (po_ord1 hk hN hM (tv_cl h h6 (fun q => hcl p q (Or.inl hp) (by omega)))).symm
end FOF
set_option maxRecDepth 100000 in
set_option maxHeartbeats 4000000 in
theorem mf_fo_loop (L : Nat) (xs : Nat → Int32) (d : Nat) (σ : kS) (n b t : Nat) (h : mTb σ n b) (hb : b ≤ 776) (tv : Int32) (Q : Option Value → kS → Prop)
    (he : ∀ l W I O, lst O l → foL σ b l → t ∈ l → foF σ n t [] l → kX kT L xs (d + 2) 199 169 [(0, .ref 232), (1, .int tv)] [] (foS σ W I O (nI l.length)) Q) :
    ∀ q : List Nat × List Nat × (Nat → Int32) × (Nat → Int32) × (Nat → Int32), (foI σ b t q.1 q.2.1 q.2.2.1 q.2.2.2.1 q.2.2.2.2 ∧ foF σ n t q.1 q.2.1) → kX kT L xs (d + 2) 199 39 [(2, .int (nI q.1.length)), (0, .ref 232), (1, .int tv)] [] (foS σ q.2.2.1 q.2.2.2.1 q.2.2.2.2 (nI q.2.1.length)) Q := by
  refine kX_while (fun q : List Nat × List Nat × (Nat → Int32) × (Nat → Int32) × (Nat → Int32) => [(2, .int (nI q.1.length)), (0, .ref 232), (1, .int tv)]) (fun q => foS σ q.2.2.1 q.2.2.2.1 q.2.2.2.2 (nI q.2.1.length)) _ (fun q => 2 * (1000 - q.2.1.length) + (1000 - q.1.length)) ?_
  rintro ⟨sk, l, W, I, O⟩ ⟨hI, hX⟩ ih
  dsimp only at hI hX ih ⊢
  have hlk := foI_len hI hb
  have hll := foL_len hI.2.2.2.2.2.2.1 hb
  rcases snoc_cases sk with rfl | ⟨s, x, rfl⟩
  · iterate 2 (refine kX_one rfl ?_)
    exact kX_lv _ rfl rfl rfl (he l W I O hI.2.1 hI.2.2.2.2.2.2.1 (hI.2.2.2.2.2.2.2.elim (fun q => (by cases q)) id) hX)
  · obtain ⟨w1, -⟩ := lst_pop hI.1
    obtain ⟨x1, x2, x3, x4⟩ := hI.2.2.1 x (by simp)
    have hV := h.2.2.2.2.2.1.1
    have hkx := h.2.2.2.2.2.2.2.2.1 x x1 x2
    have hsl : (s ++ [x]).length = s.length + 1 := by simp
    have hx0 : I x = 0 := by rw [hI.2.2.2.2.2.1 x x1 x2, isB_F x4]
    have hback : ∀ (sk' l' : List Nat) (W' I' O' : Nat → Int32) (τ : kS), (foI σ b t sk' l' W' I' O' ∧ foF σ n t sk' l') → τ = foS σ W' I' O' (nI l'.length) → 2 * (1000 - l'.length) + (1000 - sk'.length) < 2 * (1000 - l.length) + (1000 - (s ++ [x]).length) → ∀ lv, nk lv = true → ([(2, Value.int (nI sk'.length)), (0, .ref 232), (1, .int tv)] : jL).map (fun q => jl lv q.1) = ([(2, Value.int (nI sk'.length)), (0, .ref 232), (1, .int tv)] : jL).map (fun q => some q.2) → kX kT L xs (d + 2) 199 166 lv [] τ Q := by
      intro sk' l' W' I' O' τ j1 e j2 lv hk hlv
      refine kX_lv _ hk rfl hlv ?_
      rw [e]
      iterate 1 (refine kX_one rfl ?_)
      exact ih (sk', l', W', I', O') j1 j2
    have hpush : ∀ y, 200 ≤ y → y < x → tsz (σ 233) (σ 234) (σ 235) y ≤ 24 → I y = 0 → foI σ b t (s ++ [x] ++ [y]) l (upd W (s.length + 1) (nI y)) I O := by
      intro y y1 y2 y3 y4
      rw [← hsl]
      refine foI_push hI y1 y2 y3 (fun hh => ?_)
      rw [hI.2.2.2.2.2.1 y y1 (by omega), isB_T hh] at y4
      exact absurd y4 (by decide)
    have k136 : (∀ y, 200 ≤ y → (σ 234 x = nI y ∨ σ 235 x = nI y) → y < 1000 → y ∈ l) → kX kT L xs (d + 2) 199 136 [(3, .int (nI x)), (2, .int (nI (s.length + 1))), (0, .ref 232), (1, .int tv)] [] (foS σ W I O (nI l.length)) Q := by
      intro hcl
      iterate 4 (refine kX_one rfl ?_)
      refine kX_bastN rfl rfl (by decide) (x) (by first | rfl | decide) (by omega) (Or.inr rfl) ?_
      iterate 5 (refine kX_one rfl ?_)
      refine kX_iastN rfl rfl (by decide) (l.length) (by first | rfl | decide) (by omega) ?_
      iterate 7 (refine kX_one rfl ?_)
      refine hback s (l ++ [x]) W (upd I x 1) (upd O l.length (nI x)) _ ⟨foI_ord hI (by omega) hcl, foF_o h hX x1 x2 x4 (fun y hy => (hI.2.2.2.2.2.2.1.1 y hy).1) (fun y hy => (hI.2.2.2.2.2.2.1.1 y hy).2.1) hcl⟩ ?_ (by simp; omega) _ rfl ?_
      · rw [show (l ++ [x]).length = l.length + 1 by simp, ← nI_1]
        funext c; unfold foS; first
          | ((repeat (refine va_case ?_ ?_; (· (intro h; first | (subst h; rfl) | (unfold va_up; repeat' split; (all_goals first | rfl | omega | (subst_vars; rfl) | (funext j; unfold upd; repeat' split; all_goals first | rfl | omega | (subst_vars; rfl)))))); intro h)); (repeat (refine va_case2 ?_ ?_; (· (intro h; first | exact absurd h (by assumption) | (subst h; rfl) | (subst h; funext j; unfold upd; repeat' split; (all_goals first | rfl | omega | (subst_vars; rfl))))); intro h)); rfl)
          | (unfold va_up; repeat' split
             all_goals first | rfl | omega | (subst_vars; rfl) | (funext j; unfold upd; repeat' split; all_goals first | rfl | omega | (subst_vars; rfl)))
      · rw [show nI s.length = nI (s.length + 1) + Int32.ofInt (-1) from (pk_m1 _).symm]
        rfl
    have k118 : ∀ z, 200 ≤ z → z < x → tsz (σ 233) (σ 234) (σ 235) z ≤ 24 → I z = 0 → σ 235 x = nI z → (∀ y, 200 ≤ y → σ 234 x = nI y → y < 1000 → y ∈ l) → kX kT L xs (d + 2) 199 118 [(3, .int (nI x)), (2, .int (nI (s.length + 1))), (0, .ref 232), (1, .int tv)] [] (foS σ W I O (nI l.length)) Q := by
      intro z z1 z2 z3 z4 z5 hfi
      iterate 6 (refine kX_one rfl ?_)
      refine kX_ialdV rfl rfl (by decide) (x) (by first | rfl | decide) (by omega) (z5) ?_
      refine kX_iastN rfl rfl (by decide) (s.length + 1) (by first | rfl | decide) (by omega) ?_
      iterate 2 (refine kX_one rfl ?_)
      refine hback (s ++ [x] ++ [z]) l (upd W (s.length + 1) (nI z)) I O _ ⟨hpush z z1 z2 z3 z4, foF_2 h hX x1 x2 x4 (fun y hy => (hI.2.2.2.2.2.2.1.1 y hy).1) (fun y hy => (hI.2.2.2.2.2.2.1.1 y hy).2.1) hfi z2 z5⟩ ?_ (by simp; omega) _ rfl ?_
      · funext c; unfold foS; first
          | ((repeat (refine va_case ?_ ?_; (· (intro h; first | (subst h; rfl) | (unfold va_up; repeat' split; (all_goals first | rfl | omega | (subst_vars; rfl) | (funext j; unfold upd; repeat' split; all_goals first | rfl | omega | (subst_vars; rfl)))))); intro h)); (repeat (refine va_case2 ?_ ?_; (· (intro h; first | exact absurd h (by assumption) | (subst h; rfl) | (subst h; funext j; unfold upd; repeat' split; (all_goals first | rfl | omega | (subst_vars; rfl))))); intro h)); rfl)
          | (unfold va_up; repeat' split
             all_goals first | rfl | omega | (subst_vars; rfl) | (funext j; unfold upd; repeat' split; all_goals first | rfl | omega | (subst_vars; rfl)))
      · rw [show nI (s ++ [x] ++ [z]).length = nI (s.length + 1) + 1 by rw [nI_1]; simp]
        rfl
    have k87 : ∀ z, 200 ≤ z → z < x → tsz (σ 233) (σ 234) (σ 235) z ≤ 24 → I z = 0 → σ 234 x = nI z → kX kT L xs (d + 2) 199 87 [(3, .int (nI x)), (2, .int (nI (s.length + 1))), (0, .ref 232), (1, .int tv)] [] (foS σ W I O (nI l.length)) Q := by
      intro z z1 z2 z3 z4 z5
      iterate 6 (refine kX_one rfl ?_)
      refine kX_ialdV rfl rfl (by decide) (x) (by first | rfl | decide) (by omega) (z5) ?_
      refine kX_iastN rfl rfl (by decide) (s.length + 1) (by first | rfl | decide) (by omega) ?_
      iterate 2 (refine kX_one rfl ?_)
      refine hback (s ++ [x] ++ [z]) l (upd W (s.length + 1) (nI z)) I O _ ⟨hpush z z1 z2 z3 z4, foF_1 h hX x1 x2 x4 (fun y hy => (hI.2.2.2.2.2.2.1.1 y hy).1) (fun y hy => (hI.2.2.2.2.2.2.1.1 y hy).2.1) z2 z5⟩ ?_ (by simp; omega) _ rfl ?_
      · funext c; unfold foS; first
          | ((repeat (refine va_case ?_ ?_; (· (intro h; first | (subst h; rfl) | (unfold va_up; repeat' split; (all_goals first | rfl | omega | (subst_vars; rfl) | (funext j; unfold upd; repeat' split; all_goals first | rfl | omega | (subst_vars; rfl)))))); intro h)); (repeat (refine va_case2 ?_ ?_; (· (intro h; first | exact absurd h (by assumption) | (subst h; rfl) | (subst h; funext j; unfold upd; repeat' split; (all_goals first | rfl | omega | (subst_vars; rfl))))); intro h)); rfl)
          | (unfold va_up; repeat' split
             all_goals first | rfl | omega | (subst_vars; rfl) | (funext j; unfold upd; repeat' split; all_goals first | rfl | omega | (subst_vars; rfl)))
      · rw [show nI (s ++ [x] ++ [z]).length = nI (s.length + 1) + 1 by rw [nI_1]; simp]
        rfl
    have hno : ∀ y, 200 ≤ y → y < b → ¬ (200 ≤ y ∧ I y = 0) → y ∈ l := by
      intro y y1 y2 y3
      refine Classical.byContradiction (fun hh => y3 ⟨y1, ?_⟩)
      rw [hI.2.2.2.2.2.1 y y1 y2, isB_F hh]
    have k105 : (∀ y, 200 ≤ y → σ 234 x = nI y → y < 1000 → y ∈ l) → ((∃ z, z < x ∧ mv n b z ∧ tsz (σ 233) (σ 234) (σ 235) z ≤ 24 ∧ σ 235 x = nI z) ∨ σ 235 x = -1) → kX kT L xs (d + 2) 199 105 [(3, .int (nI x)), (2, .int (nI (s.length + 1))), (0, .ref 232), (1, .int tv)] [] (foS σ W I O (nI l.length)) Q := by
      intro hfi hse
      iterate 4 (refine kX_one rfl ?_)
      rcases hse with ⟨z, z1, z2, z3, z4⟩ | hse
      · refine kX_ialdV rfl rfl (by decide) (x) (by first | rfl | decide) (by omega) (z4) ?_
        refine kX_cal (mr_isOpen L xs d _ z (by omega)) rfl (Or.inr rfl) rfl rfl rfl (fun r1 σ1 q1 => ?_)
        obtain ⟨rfl, rfl⟩ := q1
        repeat refine kX_one rfl ?_
        refine kX_if (fun q => ?_) (fun q => ?_)
        · have q : ¬ (200 ≤ z ∧ I z = 0) := fun hh => isB_ne.mpr hh (qeq q)
          refine k136 (fun y y1 y2 y3 => ?_)
          rcases y2 with y2 | y2
          · exact hfi y y1 y2 y3
          · obtain rfl : z = y := nI_inj (z4.symm.trans y2)
            exact hno z y1 (by omega) q
        · have q : 200 ≤ z ∧ I z = 0 := isB_ne.mp (qeqF q)
          exact k118 z q.1 z1 z3 q.2 z4 hfi
      · refine kX_ialdV rfl rfl (by decide) (x) (by first | rfl | decide) (by omega) (hse) ?_
        refine kX_cal (mr_isOpenN L xs d _) rfl (Or.inr rfl) rfl rfl rfl (fun r1 σ1 q1 => ?_)
        obtain ⟨rfl, rfl⟩ := q1
        iterate 1 (refine kX_one rfl ?_)
        refine k136 (fun y y1 y2 y3 => ?_)
        rcases y2 with y2 | y2
        · exact hfi y y1 y2 y3
        · exact absurd (y2.symm.trans hse) (nI_m1 (by omega))
    have k74 : ∀ y, y < x → mv n b y → tsz (σ 233) (σ 234) (σ 235) y ≤ 24 → σ 234 x = nI y → ((∃ z, z < x ∧ mv n b z ∧ tsz (σ 233) (σ 234) (σ 235) z ≤ 24 ∧ σ 235 x = nI z) ∨ σ 235 x = -1) → kX kT L xs (d + 2) 199 74 [(3, .int (nI x)), (2, .int (nI (s.length + 1))), (0, .ref 232), (1, .int tv)] [] (foS σ W I O (nI l.length)) Q := by
      intro z z1 z2 z3 z4 hse
      iterate 4 (refine kX_one rfl ?_)
      refine kX_ialdV rfl rfl (by decide) (x) (by first | rfl | decide) (by omega) (z4) ?_
      refine kX_cal (mr_isOpen L xs d _ z (by omega)) rfl (Or.inr rfl) rfl rfl rfl (fun r1 σ1 q1 => ?_)
      obtain ⟨rfl, rfl⟩ := q1
      repeat refine kX_one rfl ?_
      refine kX_if (fun q => ?_) (fun q => ?_)
      · have q : ¬ (200 ≤ z ∧ I z = 0) := fun hh => isB_ne.mpr hh (qeq q)
        refine k105 (fun y y1 y2 y3 => ?_) hse
        obtain rfl : z = y := nI_inj (z4.symm.trans y2)
        exact hno z y1 (by omega) q
      · have q : 200 ≤ z ∧ I z = 0 := isB_ne.mp (qeqF q)
        exact k87 z q.1 z1 z3 q.2 z4
    rw [show nI (s ++ [x]).length = nI (s.length + 1) by rw [hsl]]
    iterate 1 (refine kX_one rfl ?_)
    repeat refine kX_one rfl ?_
    refine kX_ifF (decide_eq_false (nI_nle (by omega) (by omega))) ?_
    iterate 5 (refine kX_one rfl ?_)
    refine kX_ialdV rfl rfl (by decide) (s.length) (nI_pred _) (by omega) (w1) ?_
    iterate 3 (refine kX_one rfl ?_)
    repeat refine kX_one rfl ?_
    refine kX_if (fun q => ?_) (fun q => ?_)
    · have q := qlt q x 200
      omega
    iterate 3 (refine kX_one rfl ?_)
    refine kX_baldV rfl rfl (by decide) (x) (by first | rfl | decide) (by omega) (hx0) ?_
    iterate 1 (refine kX_one rfl ?_)
    refine kX_lv [(3, .int (nI x)), (2, .int (nI (s.length + 1))), (0, .ref 232), (1, .int tv)] rfl rfl rfl ?_
    rcases (hV x (Or.inr ⟨x1, x2⟩)).2 with ⟨k, h3, hk, -, -⟩ | ⟨k, y, z, h3, hk, hy, hz2, h4, h5, h6, h7⟩ | ⟨k, y, h3, hk, hy, hz2, h4, h6⟩
    · rw [hk, fN_nI (by omega)] at hkx
      omega
    · have e7 : tsz (σ 233) (σ 234) (σ 235) x = 1 + tsz (σ 233) (σ 234) (σ 235) y + tsz (σ 233) (σ 234) (σ 235) z := by
        unfold tsz
        rw [tA_2 hV hk hy hz2 (by omega) (by omega) h4 h5 h6 h7]
        rfl
      exact k74 y h4 h6 (by omega) hy (Or.inl ⟨z, h5, h7, by omega, hz2⟩)
    · have e7 : tsz (σ 233) (σ 234) (σ 235) x = 1 + tsz (σ 233) (σ 234) (σ 235) y := by
        unfold tsz
        rw [tA_1 hV hk hy hz2 (by omega) (by omega) h4 h6]
        rfl
      exact k74 y h4 h6 (by omega) hy (Or.inr hz2)
set_option maxRecDepth 100000 in
set_option maxHeartbeats 4000000 in
theorem mf_findOrder (L : Nat) (xs : Nat → Int32) (d : Nat) (σ : kS) (n b t : Nat) (h : mTb σ n b) (hb : b ≤ 776) (ht : 200 ≤ t) (htb : t < b) (h24 : tsz (σ 233) (σ 234) (σ 235) t ≤ 24) : kXM kT L xs (d + 2) 199 [.ref 232, .int (nI t)] σ (fun r σ' => r = none ∧ ∃ l W I O, σ' = foS σ W I O (nI l.length) ∧ lst O l ∧ foL σ b l ∧ t ∈ l ∧ foF σ n t [] l) := by
  unfold kXM
  have hl := mf_fo_loop L xs d σ n b t h hb (nI t) (fun r σ' => r = none ∧ ∃ l W I O, σ' = foS σ W I O (nI l.length) ∧ lst O l ∧ foL σ b l ∧ t ∈ l ∧ foF σ n t [] l) (fun l W I O h1 h2 h3 h4 => by
    refine kX_ret (i := .return_) (len := 1) rfl (Or.inr rfl) rfl (⟨rfl, l, W, I, O, rfl, h1, h2, h3, h4⟩))
  iterate 5 (refine kX_one rfl ?_)
  have hT : mTb (va_up σ 232 (upd (σ 232) 61 (Int32.ofInt 0))) n b := h
  have := mr_fo_init L xs (d + 1) (va_up σ 232 (upd (σ 232) 61 (Int32.ofInt 0))) n b hT (nI t) (fun r σ' => r = none ∧ ∃ l W I O, σ' = foS σ W I O (nI l.length) ∧ lst O l ∧ foL σ b l ∧ t ∈ l ∧ foF σ n t [] l) (fun I hI => ?_) (200, σ 280) ⟨Nat.le_refl _, h.2.1, fun j j1 j2 => absurd j2 (by simp only; omega)⟩
  · refine kX_to _ _ rfl rfl rfl ?_ this
    funext c; first
      | ((repeat (refine va_case ?_ ?_; (· (intro h; first | (subst h; rfl) | (unfold va_up; repeat' split; (all_goals first | rfl | omega | (subst_vars; rfl) | (funext j; unfold upd; repeat' split; all_goals first | rfl | omega | (subst_vars; rfl)))))); intro h)); (repeat (refine va_case2 ?_ ?_; (· (intro h; first | exact absurd h (by assumption) | (subst h; rfl) | (subst h; funext j; unfold upd; repeat' split; (all_goals first | rfl | omega | (subst_vars; rfl))))); intro h)); rfl)
      | (unfold va_up; repeat' split
         all_goals first | rfl | omega | (subst_vars; rfl) | (funext j; unfold upd; repeat' split; all_goals first | rfl | omega | (subst_vars; rfl)))
  · iterate 6 (refine kX_one rfl ?_)
    refine kX_iastN rfl rfl (by decide) (0) (by first | rfl | decide) (by decide) ?_
    refine kX_to _ _ rfl rfl rfl ?_ (hl ([t], [], upd (σ 252) 0 (nI t), I, σ 279) ⟨⟨lst_push (lst_nil _) t, lst_nil _, fun x hx => ?_, List.pairwise_singleton _ _, fun i hi => ?_, fun j j1 j2 => ?_, foL_nil σ b, Or.inl (by simp)⟩, rfl⟩)
    · funext c; unfold foS; first
        | ((repeat (refine va_case ?_ ?_; (· (intro h; first | (subst h; rfl) | (unfold va_up; repeat' split; (all_goals first | rfl | omega | (subst_vars; rfl) | (funext j; unfold upd; repeat' split; all_goals first | rfl | omega | (subst_vars; rfl)))))); intro h)); (repeat (refine va_case2 ?_ ?_; (· (intro h; first | exact absurd h (by assumption) | (subst h; rfl) | (subst h; funext j; unfold upd; repeat' split; (all_goals first | rfl | omega | (subst_vars; rfl))))); intro h)); rfl)
        | (unfold va_up; repeat' split
           all_goals first | rfl | omega | (subst_vars; rfl) | (funext j; unfold upd; repeat' split; all_goals first | rfl | omega | (subst_vars; rfl)))
    · rw [List.mem_singleton] at hx
      subst hx
      exact ⟨ht, htb, h24, by simp⟩
    · simp at hi
      subst hi
      exact htb
    · show I j = isB (j ∈ [])
      rw [hI j j1 j2, isB_F (by simp)]
end
section
/-! alike: lasting, the reference's row -/
def laP (σ : kS) (n b R S C : Nat) (kl : List Nat) (t : Nat) (r : Option Value) (σ' : kS) : Prop := (∃ z, r = some (.int z)) ∧ ((200 < n + (poT (numN σ n) (mtv σ t) []).length ∧ mFr σ σ' n ∧ mI σ' n b R S C kl) ∨ (n + (poT (numN σ n) (mtv σ t) []).length ≤ 200 ∧ mGr σ σ' n ∧ mI σ' (n + (poT (numN σ n) (mtv σ t) []).length) 200 R S C kl ∧ ∀ j (h : j < (poT (numN σ n) (mtv σ t) []).length), mtv σ' (n + j) = (poT (numN σ n) (mtv σ t) [])[j]'h))
theorem loK_tv {σ τ : kS} {n b bk k : Nat} {l : List Nat} (h : mTb σ n b) (hb : b ≤ 776) (hT : mTb τ (n + k) bk) (hG : mGr σ τ n) (hL : ∀ x ∈ l, 200 ≤ x ∧ x < b) (hll : l.length ≤ 576) (hK : loK σ τ n l k) : ∀ j (hj : j < l.length), j < k → mtv τ (n + j) = mtv σ l[j] := by
  intro j
  induction j using Nat.strongRecOn with
  | _ j ih =>
    intro hj hjk
    have hn := h.1
    obtain ⟨x1, x2⟩ := hL _ (List.getElem_mem hj)
    obtain ⟨e1, e2, e3⟩ := hK j hj hjk
    have hV := h.2.2.2.2.2.1.1
    have hV' := hT.2.2.2.2.2.1.1
    have hnum : ∀ p, p < n → mtv τ p = mtv σ p := fun p hp => tA_congr (mTb_num h) (fun u hu => ⟨(hG.2.2 u hu).1, (hG.2.2 u hu).2.1, (hG.2.2 u hu).2.2, rfl⟩) p hp
    have hpart : ∀ p w, p < 1000 → loT l n j (nI p) w → ∃ p', w = nI p' ∧ p' < n + j ∧ mtv τ p' = mtv σ p := by
      intro p w hp hq
      rcases hq with ⟨a1, a2⟩ | ⟨y, y1, y2, y3⟩ | ⟨i, i0, i1, i2, i3⟩
      · exact absurd a1 (nI_m1 (by omega))
      · obtain rfl : p = y := nI_inj y2
        exact ⟨p, y3, by omega, hnum p y1⟩
      · have hi := (hL _ (List.getElem_mem i0)).2
        have : p = l[i] := nI_inj i2
        exact ⟨n + i, i3, by omega, by rw [this]; exact ih i i1 i0 (by omega)⟩
    generalize l[j] = x at *
    rcases lo_tok h x1 x2 with ⟨kd, p, q, h3, hk, hp, hq, h4, h5, h6, h7⟩ | ⟨kd, p, h3, hk, hp, hq, h4, h6⟩
    · rw [hp] at e2
      rw [hq] at e3
      obtain ⟨p', p1, p2, p3⟩ := hpart p _ (by omega) e2
      obtain ⟨q', q1, q2, q3⟩ := hpart q _ (by omega) e3
      unfold mtv at p3 q3 ⊢
      rw [tvl_2 hV' (e1.trans hk) p1 q1 (by omega) (by omega) p2 q2 (Or.inl (by omega)) (Or.inl (by omega)), tvl_2 hV hk hp hq (by omega) (by omega) h4 h5 h6 h7, p3, q3]
    · rw [hp] at e2
      rw [hq] at e3
      obtain ⟨p', p1, p2, p3⟩ := hpart p _ (by omega) e2
      have q1 := loT_m1 e3 hn (fun x hx => by have := (hL x hx).2; omega)
      unfold mtv at p3 ⊢
      rw [tvl_1 hV' (e1.trans hk) p1 q1 (by omega) (by omega) p2 (Or.inl (by omega)), tvl_1 hV hk hp hq (by omega) (by omega) h4 h6, p3]
set_option maxRecDepth 100000 in
set_option maxHeartbeats 4000000 in
theorem mf_lasting (L : Nat) (xs : Nat → Int32) (d : Nat) (σ : kS) (n b R S C : Nat) (kl : List Nat) (t : Nat) (h : mI σ n b R S C kl) (hb : b ≤ 776) (ht : 200 ≤ t) (htb : t < b) (h24 : tsz (σ 233) (σ 234) (σ 235) t ≤ 24) : kXM kT L xs (d + 4) 203 [.ref 232, .int (nI t)] σ (laP σ n b R S C kl t) := by
  have hT := h.1
  have hn := hT.1
  unfold kXM
  iterate 2 (refine kX_one rfl ?_)
  refine kX_cal (mf_findOrder L xs (d + 1) σ n b t hT hb ht htb h24) rfl (Or.inr rfl) rfl rfl rfl (fun r1 σ1 q1 => ?_)
  obtain ⟨rfl, l, W, I, O, rfl, hl, hL, htl, hX⟩ := q1
  have hX : l.map (mtv σ) = poT (numN σ n) (mtv σ t) [] := hX
  have hPl : (poT (numN σ n) (mtv σ t) []).length = l.length := by rw [← hX, List.length_map]
  have hF0 : mFr σ (foS σ W I O (nI l.length)) n := by
    refine ⟨fun c hc => ?_, fun j hj => ?_, fun _ _ => ⟨rfl, rfl, rfl⟩⟩
    · simp only [rowC, List.mem_cons, List.not_mem_nil, or_false, not_or] at hc
      unfold foS
      rw [up_ne (by omega), up_ne (by omega), up_ne (by omega), up_ne (by omega)]
    · simp only [rowJ, List.mem_cons, List.not_mem_nil, or_false, not_or] at hj
      show upd (σ 232) 61 (nI l.length) j = _
      exact pk_un (by omega)
  have hk0 : foS σ W I O (nI l.length) 233 = σ 233 ∧ foS σ W I O (nI l.length) 234 = σ 234 ∧ foS σ W I O (nI l.length) 235 = σ 235 := ⟨rfl, rfl, rfl⟩
  have hll := foL_len hL hb
  have hI1 : mI (foS σ W I O (nI l.length)) n b R S C kl := mI_fo h
  have hL1 : foL (foS σ W I O (nI l.length)) b l := hL
  have hlow : mLow σ (foS σ W I O (nI l.length)) := fun c hc => by
    unfold foS va_up
    rw [if_neg (by omega), if_neg (by omega), if_neg (by omega), if_neg (by omega)]
  have hord : foS σ W I O (nI l.length) 232 61 = nI l.length := rfl
  have hord2 : lst (foS σ W I O (nI l.length) 279) l := hl
  have hter : foS σ W I O (nI l.length) 232 9 = nI n := hI1.1.2.2.2.1
  generalize foS σ W I O (nI l.length) = ρ at *
  have k23 : n + l.length ≤ 200 → kX kT L xs (d + 4) 203 23 [(0, .ref 232), (1, .int (nI t))] [] ρ (laP σ n b R S C kl t) := by
    intro h200
    iterate 2 (refine kX_one rfl ?_)
    have h1 := mr_lo_one L xs (d + 2) ρ n b l hI1.1 hb hord2 hord hL1 (nI t) (laP σ n b R S C kl t) (fun NK NF NS hlo => ?_) (0, ρ 281, ρ 282, ρ 283) ⟨Nat.zero_le _, fun j _ hj => absurd hj (Nat.not_lt_zero _)⟩
    · refine kX_to _ _ rfl rfl rfl ?_ h1
      funext c; unfold loS; first
        | ((repeat (refine va_case ?_ ?_; (· (intro h; first | (subst h; rfl) | (unfold va_up; repeat' split; (all_goals first | rfl | omega | (subst_vars; rfl) | (funext j; unfold upd; repeat' split; all_goals first | rfl | omega | (subst_vars; rfl)))))); intro h)); (repeat (refine va_case2 ?_ ?_; (· (intro h; first | exact absurd h (by assumption) | (subst h; rfl) | (subst h; funext j; unfold upd; repeat' split; (all_goals first | rfl | omega | (subst_vars; rfl))))); intro h)); rfl)
        | (unfold va_up; repeat' split
           all_goals first | rfl | omega | (subst_vars; rfl) | (funext j; unfold upd; repeat' split; all_goals first | rfl | omega | (subst_vars; rfl)))
    · have hT3 : mTb (loS ρ NK NF NS) n b := hI1.1
      have hI3 : mI (loS ρ NK NF NS) n b R S C kl := mI_lo hI1
      have hL3 : foL (loS ρ NK NF NS) b l := hL1
      have hlo3 : loI (loS ρ NK NF NS) n l NK NF NS l.length := hlo
      have hlow3 : mLow σ (loS ρ NK NF NS) := mLow_trans hlow (fun c hc => by
        unfold loS va_up
        rw [if_neg (by omega), if_neg (by omega), if_neg (by omega)])
      have h2 := mr_lo_two L xs d (loS ρ NK NF NS) n b l hT3 hb hL3 h200 NK NF NS hlo3 (nI t) (laP σ n b R S C kl t) (fun τ g1 g2 g3 => ?_) (0, loS ρ NK NF NS) ⟨Nat.zero_le _, ⟨b, hT3⟩, ⟨fun _ _ => rfl, fun _ _ => rfl, fun _ _ => ⟨rfl, rfl, rfl⟩⟩, rfl, rfl, rfl, fun j _ hj => absurd hj (Nat.not_lt_zero _), fun hj => absurd hj (Nat.lt_irrefl _)⟩
      · iterate 2 (refine kX_one rfl ?_)
        refine kX_top (hord) ?_
        iterate 3 (refine kX_one rfl ?_)
        refine kX_top (hter) ?_
        iterate 3 (refine kX_one rfl ?_)
        exact kX_lv _ rfl rfl rfl h2
      · have hpos : 0 < l.length := List.length_pos_of_mem htl
        obtain ⟨g4, g5⟩ := g3 hpos
        repeat refine kX_one rfl ?_
        have hfin : mI τ (n + l.length) 200 R S C kl := by
          refine mI_gr hI3 g1 (by omega) (fun u u1 u2 => ?_) g4 g5
          obtain ⟨j, rfl⟩ : ∃ j, u = n + j := ⟨u - n, by omega⟩
          have hj : j < l.length := by omega
          obtain ⟨x1, x2, -⟩ := hL3.1 _ (List.getElem_mem hj)
          have := hT3.2.2.2.2.2.2.2.2.1 _ x1 x2
          rw [(g2 j hj hj).1]
          intro e
          rw [e, fN_nI (by omega)] at this
          omega
        have hGr : mGr σ τ n := by
          refine ⟨fun c hc => ?_, fun j hj => ?_, fun u hu => ?_⟩
          · rw [g1.1 c hc, ← hF0.1 c hc]
            simp only [rowC, List.mem_cons, List.not_mem_nil, or_false, not_or] at hc
            unfold loS
            rw [up_ne (by omega), up_ne (by omega), up_ne (by omega)]
          · rw [g1.2.1 j hj, ← hF0.2.1 j (fun z => hj (List.mem_cons_of_mem _ z))]
            rfl
          · have := g1.2.2 u hu
            have e1 : loS ρ NK NF NS 233 = σ 233 := hk0.1
            have e2 : loS ρ NK NF NS 234 = σ 234 := hk0.2.1
            have e3 : loS ρ NK NF NS 235 = σ 235 := hk0.2.2
            rw [e1, e2, e3] at this
            exact this
        have hK2 : loK σ τ n l l.length := by
          have e1 : loS ρ NK NF NS 233 = σ 233 := hk0.1
          have e2 : loS ρ NK NF NS 234 = σ 234 := hk0.2.1
          have e3 : loS ρ NK NF NS 235 = σ 235 := hk0.2.2
          unfold loK at g2 ⊢
          rw [e1, e2, e3] at g2
          exact g2
        refine kX_ret (i := .ireturn) (len := 1) rfl (Or.inr rfl) rfl ⟨⟨_, rfl⟩, Or.inr ⟨by rw [hPl]; exact h200, hGr, by rw [hPl]; exact hfin, fun j hj => ?_⟩⟩
        have hj' : j < l.length := by rw [← hPl]; exact hj
        rw [loK_tv hT hb g4 hGr (fun x hx => ⟨(hL.1 x hx).1, (hL.1 x hx).2.1⟩) hll hK2 j hj' hj']
        simp only [← hX, List.getElem_map]
  iterate 2 (refine kX_one rfl ?_)
  refine kX_top (hter) ?_
  iterate 2 (refine kX_one rfl ?_)
  refine kX_top (hord) ?_
  iterate 1 (refine kX_one rfl ?_)
  refine kX_top (nI_add n l.length) ?_
  iterate 1 (refine kX_one rfl ?_)
  repeat refine kX_one rfl ?_
  refine kX_if (fun q => ?_) (fun q => ?_)
  · have q := qle q (n + l.length) 200
    exact k23 q
  · have q := qleF q (n + l.length) 200
    repeat refine kX_one rfl ?_
    refine kX_ret (i := .ireturn) (len := 1) rfl (Or.inr rfl) rfl (⟨⟨_, rfl⟩, Or.inl ⟨by rw [hPl]; exact q, hF0, hI1⟩⟩)
end
