/-! the reference: CLAIMS -/
def mCl (σ : kS) (R C : Nat) : Prop := C ≤ 6 ∧ σ 232 30 = nI C ∧ ∀ c, c < C → ∃ b a nn j, b < R ∧ σ 258 c = nI b ∧ σ 259 c = nI a ∧ (σ 257 c ≠ 0 → a < fN (σ 244 b)) ∧ (σ 257 c = 0 → a < R) ∧ nn ≤ 6 ∧ σ 260 c = nI nn ∧ j ≤ 4 ∧ σ 261 c = nI j ∧ ∀ k, k < j → ∃ x y, x < fN (σ 244 b) ∧ y < fN (σ 244 a) ∧ a < R ∧ σ 262 (4 * c + k) = nI x ∧ σ 263 (4 * c + k) = nI y
/-- all PARAMETERS of the session s are HONEST -/
def mHo (σ : kS) (s : Nat) : Prop := ∀ k, k < fN (σ 244 (fN (σ 255 s))) → σ 246 (6 * fN (σ 255 s) + k) = 0 → σ 238 (fN (σ 265 (6 * s + k))) ≠ 0
theorem isB_and {P Q : Prop} (h : Q) : isB (P ∧ Q) = isB P := by
  rw [propext (show (P ∧ Q) ↔ P from ⟨fun q => q.1, fun q => ⟨q, h⟩⟩)]
set_option maxRecDepth 100000 in
set_option maxHeartbeats 4000000 in
theorem mr_isHonest (L : Nat) (xs : Nat → Int32) (d : Nat) (σ : kS) (n b R s dn : Nat) (h : mTb σ n b) (hR : mRo σ n R) (hs4 : s < 4) (hS : mSn σ n R s dn) : kXM kT L xs (d + 1) 185 [.ref 232, .int (nI s)] σ (fun r σ' => r = some (.int (isB (mHo σ s))) ∧ σ = σ') := by
  have hn := h.1
  obtain ⟨r, r1, r2, r3, r4, r5, r6⟩ := hS
  obtain ⟨⟨v, hv6, hv⟩, -⟩ := hR.2.2.1 r r1
  have hR4 := hR.1
  have hfv : fN (σ 244 r) = v := by rw [hv]; exact fN_nI (by omega)
  have hfr : fN (σ 255 s) = r := by rw [r2]; exact fN_nI (by omega)
  unfold kXM
  repeat refine kX_one rfl ?_
  refine kX_ialdV rfl rfl (by decide) (s) (by first | rfl | decide) (hs4) (r2) ?_
  iterate 3 (refine kX_one rfl ?_)
  iterate 2 (refine kX_one rfl ?_)
  have loop := kX_while (T := kT) (L := L) (xs := xs) (d := d + 1) (mi := 185) (pc := 12) (Q := fun r σ' => r = some (.int (isB (mHo σ s))) ∧ σ = σ')
    (fun k : Nat => [(4, .int (nI k)), (3, .int (isB (∀ i, i < k → σ 246 (6 * r + i) = 0 → σ 238 (fN (σ 265 (6 * s + i))) ≠ 0))), (2, .int (nI r)), (0, .ref 232), (1, .int (nI s))]) (fun _ => σ) (fun k => k ≤ v) (fun k => v - k) ?_ 0 (Nat.zero_le _)
  · refine kX_lv _ rfl rfl ?_ loop
    rw [isB_T (fun i hi => absurd hi (Nat.not_lt_zero i))]
    rfl
  · intro k hk ih
    have back : ∀ x : Int32, k < v → x = isB (∀ i, i < k + 1 → σ 246 (6 * r + i) = 0 → σ 238 (fN (σ 265 (6 * s + i))) ≠ 0) → kX kT L xs (d + 1) 185 67 [(4, .int (nI k)), (3, .int (isB (∀ i, i < k → σ 246 (6 * r + i) = 0 → σ 238 (fN (σ 265 (6 * s + i))) ≠ 0))), (2, .int (nI r)), (0, .ref 232), (1, .int (nI s))] [.int x] σ (fun r σ' => r = some (.int (isB (mHo σ s))) ∧ σ = σ') := by
      intro x hlt hx
      subst hx
      iterate 3 (refine kX_one rfl ?_)
      have := ih (k + 1) hlt (by omega)
      rw [← nI_1] at this
      exact this
    repeat refine kX_one rfl ?_
    refine kX_ialdV rfl rfl (by decide) (r) (by first | rfl | decide) (by omega) (hv) ?_
    repeat refine kX_one rfl ?_
    refine kX_if (fun q => ?_) (fun q => ?_)
    · have q := qge q k v
      obtain rfl : k = v := by omega
      iterate 1 (refine kX_one rfl ?_)
      refine kX_ret (i := .ireturn) (len := 1) rfl (Or.inr rfl) (jend_b rfl (isB_01 _)) (⟨?_, rfl⟩)
      unfold mHo
      rw [hfr, hfv]
    · have q := qgeF q k v
      obtain ⟨t, so, as, a1, a2, a3, a4, a5, a6, a7, a8, a9, -⟩ := hR.2.2.2.1 r k r1 (by omega)
      repeat refine kX_one rfl ?_
      refine kX_if (fun q2 => ?_) (fun q2 => ?_)
      · have q2 := fun z => isB_ne.mpr z (qeq q2)
        iterate 1 (refine kX_one rfl ?_)
        exact back _ q (isB_F (fun z => q2 (fun i hi => z i (by omega)))).symm
      · have q2 := isB_ne.mp (qeqF q2)
        repeat refine kX_one rfl ?_
        refine kX_ialdV (v := nI as) rfl rfl (by decide) (6 * r + k) (ix6 r k) (by omega) a9 ?_
        repeat refine kX_one rfl ?_
        refine kX_if (fun q3 => ?_) (fun q3 => ?_)
        · have q3 : nI as ≠ 0 := qne q3
          iterate 2 (refine kX_one rfl ?_)
          refine back _ q (isB_T (fun i hi => ?_)).symm
          by_cases e : i = k
          · subst e
            intro e0
            rw [a9] at e0
            exact absurd e0 q3
          · exact q2 i (by omega)
        · have q3 : nI as = 0 := qneF q3
          rcases r5 k (by omega) with ⟨-, w2⟩ | ⟨z, z1, z2, z3, z4, z5⟩
          · exfalso
            have := w2 (by omega)
            rw [a9, q3] at this
            exact absurd this (by decide)
          · repeat refine kX_one rfl ?_
            refine kX_ialdV (v := nI z) rfl rfl (by decide) (6 * s + k) (ix6 s k) (by omega) z2 ?_
            refine kX_baldN rfl rfl (by decide) (z) (by first | rfl | decide) (by omega) ?_
            have hz : fN (σ 265 (6 * s + k)) = z := by rw [z2]; exact fN_nI (by omega)
            repeat refine kX_one rfl ?_
            refine kX_if (fun q4 => ?_) (fun q4 => ?_)
            · have q4 := qeq q4
              iterate 1 (refine kX_one rfl ?_)
              refine back _ q (isB_F (fun w => ?_)).symm
              have := w k (by omega) (a9.trans q3)
              rw [hz] at this
              exact this q4
            · have q4 := qeqF q4
              iterate 2 (refine kX_one rfl ?_)
              refine back _ q (isB_T (fun i hi => ?_)).symm
              by_cases e : i = k
              · subst e
                intro _
                rw [hz]
                exact q4
              · exact q2 i (by omega)
/-- a SECRET is lost in the session s -/
def mLs (σ : kS) (l : rwT) (c s : Nat) : Prop := σ 255 s = σ 258 c ∧ ¬ σ 265 (6 * s + fN (σ 259 c)) < 0 ∧ mHo σ s ∧ mMk σ l (fN (σ 265 (6 * s + fN (σ 259 c))))
theorem rwF_Sn {σ τ : kS} {n b R s dn : Nat} (h : mTb σ n b) (hR : mRo σ n R) (hF : rwF σ τ) (hS : mSn σ n R s dn) : mSn τ n R s dn := mFr_Sn h hR (mFr_rwF hF) hS
set_option maxRecDepth 100000 in
set_option maxHeartbeats 4000000 in
theorem mr_isLost (L : Nat) (xs : Nat → Int32) (d : Nat) (σ : kS) (n b R S C c : Nat) (l : rwT) (h : mTb σ n b) (hR : mRo σ n R) (hS4 : S ≤ 4) (hS : mSv σ n R S) (hC : mCl σ R C) (hc : c < C) (hsec : σ 257 c ≠ 0) (hq : mRq σ (mvG σ n b) l) (hj : mJd σ n b l) : kXM kT L xs (d + 5) 186 [.ref 232, .int (nI c)] σ (fun r σ' => r = some (.int (isB (∃ s, s < S ∧ mLs σ l c s))) ∧ rwF σ σ' ∧ mRq σ' (mvG σ n b) l ∧ mJd σ' n b l) := by
  have hn := h.1
  obtain ⟨cb, ca, nn, j, c1, c2, c3, c4, -⟩ := hC.2.2 c hc
  have hca := c4 hsec
  obtain ⟨⟨v, hv6, hv⟩, -⟩ := hR.2.2.1 cb c1
  rw [hv, fN_nI (by omega)] at hca
  have hC6 := hC.1
  have hfa : fN (σ 259 c) = ca := by rw [c3]; exact fN_nI (by omega)
  unfold kXM
  iterate 4 (refine kX_one rfl ?_)
  have loop := kX_while (T := kT) (L := L) (xs := xs) (d := d + 5) (mi := 186) (pc := 4) (Q := fun r σ' => r = some (.int (isB (∃ s, s < S ∧ mLs σ l c s))) ∧ rwF σ σ' ∧ mRq σ' (mvG σ n b) l ∧ mJd σ' n b l)
    (fun q : Nat × kS => [(3, .int (nI q.1)), (2, .int (isB (∃ s, s < q.1 ∧ mLs σ l c s))), (0, .ref 232), (1, .int (nI c))]) (fun q => q.2) (fun q => q.1 ≤ S ∧ rwF σ q.2 ∧ mRq q.2 (mvG σ n b) l ∧ mJd q.2 n b l) (fun q => S - q.1) ?_ (0, σ) ⟨Nat.zero_le _, rwF_refl σ, hq, hj⟩
  · refine kX_lv _ rfl rfl ?_ loop
    rw [isB_F (fun ⟨s, hs, _⟩ => absurd hs (Nat.not_lt_zero s))]
    rfl
  · rintro ⟨s, τ⟩ ⟨i1, i2, i3, i4⟩ ih
    dsimp only at i1 i2 i3 i4 ih ⊢
    have hFr := mFr_rwF (n := n) i2
    have hSs : τ 232 27 = nI S := (hFr.2.1 _ (by decide)).trans hS.1
    have hcv : τ 265 = σ 265 := hFr.1 _ (by decide)
    have hcA : τ 259 = σ 259 := hFr.1 _ (by decide)
    have hcB : τ 258 = σ 258 := hFr.1 _ (by decide)
    have hcR : τ 255 = σ 255 := hFr.1 _ (by decide)
    have fin : ∀ P : Prop, isB (∃ s', s' < s ∧ mLs σ l c s') = isB P → (P ↔ ∃ s, s < S ∧ mLs σ l c s) → kX kT L xs (d + 5) 186 83 [(3, .int (nI s)), (2, .int (isB (∃ s', s' < s ∧ mLs σ l c s'))), (0, .ref 232), (1, .int (nI c))] [] τ (fun r σ' => r = some (.int (isB (∃ s, s < S ∧ mLs σ l c s))) ∧ rwF σ σ' ∧ mRq σ' (mvG σ n b) l ∧ mJd σ' n b l) := by
      intro P e hP
      iterate 1 (refine kX_one rfl ?_)
      refine kX_ret (i := .ireturn) (len := 1) rfl (Or.inr rfl) (jend_b rfl (isB_01 _)) (⟨by rw [e, propext hP], i2, i3, i4⟩)
    iterate 3 (refine kX_one rfl ?_)
    refine kX_top (hSs) ?_
    repeat refine kX_one rfl ?_
    refine kX_if (fun q => ?_) (fun q => ?_)
    · have q := qge q s S
      obtain rfl : s = S := by omega
      exact fin _ rfl Iff.rfl
    · have q := qgeF q s S
      have hs4 : s < 4 := by omega
      repeat refine kX_one rfl ?_
      refine kX_if (fun q2 => ?_) (fun q2 => ?_)
      · have q2 := isB_ne.mp (qne q2)
        refine fin _ rfl ⟨fun ⟨s', h1, h2⟩ => ⟨s', by omega, h2⟩, fun _ => q2⟩
      · have q2 := fun z => isB_ne.mpr z (qneF q2)
        have back : ∀ (τ2 : kS) (P : Prop), rwF σ τ2 → mRq τ2 (mvG σ n b) l → mJd τ2 n b l → (P ↔ mLs σ l c s) → ∀ lv, nk lv = true → ([(3, Value.int (nI s)), (0, .ref 232), (1, .int (nI c))] : jL).map (fun q => jl lv q.1) = ([(3, Value.int (nI s)), (0, .ref 232), (1, .int (nI c))] : jL).map (fun q => some q.2) → kX kT L xs (d + 5) 186 76 lv [.int (isB P)] τ2 (fun r σ' => r = some (.int (isB (∃ s, s < S ∧ mLs σ l c s))) ∧ rwF σ σ' ∧ mRq σ' (mvG σ n b) l ∧ mJd σ' n b l) := by
          intro τ2 P g1 g2 g3 g4 lv hk hlv
          refine kX_lv _ hk rfl hlv ?_
          iterate 3 (refine kX_one rfl ?_)
          have := ih (s + 1, τ2) ⟨by simp only; omega, g1, g2, g3⟩ (by simp only; omega)
          have e : isB (∃ s', s' < s + 1 ∧ mLs σ l c s') = isB P := by
            rw [propext (show (∃ s', s' < s + 1 ∧ mLs σ l c s') ↔ P from ⟨fun ⟨s', h1, h2⟩ => by
              by_cases e : s' = s
              · subst e
                exact g4.mpr h2
              · exact absurd ⟨s', by omega, h2⟩ q2, fun z => ⟨s, by omega, g4.mp z⟩⟩)]
          simp only at this
          rw [e, ← nI_1] at this
          exact kX_lv _ rfl rfl rfl this
        have no : ∀ (τ2 : kS), rwF σ τ2 → mRq τ2 (mvG σ n b) l → mJd τ2 n b l → ¬ mLs σ l c s → ∀ lv, nk lv = true → ([(3, Value.int (nI s)), (0, .ref 232), (1, .int (nI c))] : jL).map (fun q => jl lv q.1) = ([(3, Value.int (nI s)), (0, .ref 232), (1, .int (nI c))] : jL).map (fun q => some q.2) → kX kT L xs (d + 5) 186 75 lv [] τ2 (fun r σ' => r = some (.int (isB (∃ s, s < S ∧ mLs σ l c s))) ∧ rwF σ σ' ∧ mRq σ' (mvG σ n b) l ∧ mJd σ' n b l) := by
          intro τ2 g1 g2 g3 g4 lv hk hlv
          iterate 1 (refine kX_one rfl ?_)
          have := back τ2 False g1 g2 g3 ⟨False.elim, g4⟩ lv hk hlv
          rw [isB_F id] at this
          exact this
        obtain ⟨r, r1, r2, r3, r4, r5, r6⟩ := hS.2 s q
        repeat refine kX_one rfl ?_
        refine kX_ialdV (v := nI ca) rfl rfl (by decide) c rfl (by omega) (by rw [hcA]; exact c3) ?_
        iterate 1 (refine kX_one rfl ?_)
        refine kX_ialdV (v := σ 265 (6 * s + ca)) rfl rfl (by decide) (6 * s + ca) (ix6 s ca) (by omega) (by rw [hcv]) ?_
        repeat refine kX_one rfl ?_
        refine kX_ialdV (v := σ 255 s) rfl rfl (by decide) s rfl (by omega) (by rw [hcR]) ?_
        repeat refine kX_one rfl ?_
        refine kX_ialdV (v := σ 258 c) rfl rfl (by decide) c rfl (by omega) (by rw [hcB]) ?_
        repeat refine kX_one rfl ?_
        refine kX_if (fun q3 => ?_) (fun q3 => ?_)
        · exact no τ i2 i3 i4 (fun z => qne q3 z.1) _ rfl rfl
        · have q3 : σ 255 s = σ 258 c := qneF q3
          repeat refine kX_one rfl ?_
          refine kX_if (fun q4 => ?_) (fun q4 => ?_)
          · have q4 : σ 265 (6 * s + ca) < 0 := of_decide_eq_true q4
            exact no τ i2 i3 i4 (fun z => z.2.1 (by rw [hfa]; exact q4)) _ rfl rfl
          · have q4 : ¬ σ 265 (6 * s + ca) < 0 := of_decide_eq_false q4
            have hz : ∃ z, z < n ∧ σ 265 (6 * s + ca) = nI z := by
              rcases r5 ca (by omega) with ⟨w1, -⟩ | ⟨z, z1, z2, -⟩
              · rw [w1] at q4
                exact absurd (by decide) q4
              · exact ⟨z, z1, z2⟩
            obtain ⟨z, z1, z2⟩ := hz
            have hsn := rwF_Sn h hR i2 (hS.2 s q)
            have hT := rwF_Tb i2 h
            repeat refine kX_one rfl ?_
            refine kX_cal (mr_isHonest L xs (d + 3) τ n b R s _ hT (mFr_Ro h hFr hR) hs4 hsn) rfl (Or.inr rfl) rfl rfl rfl (fun r1 σ2 q1 => ?_)
            obtain ⟨rfl, hσ9⟩ := q1
            obtain rfl := hσ9
            have hHo : mHo τ s ↔ mHo σ s := by
              obtain ⟨⟨_, _, _, _, _, _, rfl⟩, -⟩ := i2
              exact Iff.rfl
            repeat refine kX_one rfl ?_
            refine kX_if (fun q5 => ?_) (fun q5 => ?_)
            · have q5 : ¬ mHo σ s := fun w => isB_ne.mpr (hHo.mpr w) (qeq q5)
              exact no τ i2 i3 i4 (fun w => q5 w.2.2.1) _ rfl rfl
            · have q5 : mHo σ s := hHo.mp (isB_ne.mp (qeqF q5))
              iterate 2 (refine kX_one rfl ?_)
              refine kX_top (z2) ?_
              refine kX_cal (mr_canMake L xs d τ n b l z hT (by rw [rwF_mvG i2]; exact i3) i4 (Or.inl z1)) rfl (Or.inr rfl) rfl rfl rfl (fun r1 σ2 q1 => ?_)
              obtain ⟨rfl, M, rfl, f3⟩ := q1
              have hMk : mMk τ l z ↔ mMk σ l z := by
                obtain ⟨⟨_, _, _, _, _, _, rfl⟩, -⟩ := i2
                exact Iff.rfl
              have hfz : fN (σ 265 (6 * s + fN (σ 259 c))) = z := by rw [hfa, z2]; exact fN_nI (by omega)
              have hF2 := rwF_trans i2 (rwF_cmS (σ := τ) (M := M) (x := nI b) (y := nI l.length))
              repeat refine kX_one rfl ?_
              refine kX_if (fun q6 => ?_) (fun q6 => ?_)
              · have q6 : ¬ mMk σ l z := fun w => isB_ne.mpr (hMk.mpr w) (qeq q6)
                exact no _ hF2 i3 f3 (fun w => q6 (by have := w.2.2.2; rw [hfz] at this; exact this)) _ rfl rfl
              · have q6 : mMk σ l z := hMk.mp (isB_ne.mp (qeqF q6))
                iterate 2 (refine kX_one rfl ?_)
                have := back _ True hF2 i3 f3 ⟨fun _ => ⟨q3, by rw [hfa]; exact q4, q5, by rw [hfz]; exact q6⟩, fun _ => trivial⟩ [(4, .int (σ 265 (6 * s + ca))), (3, .int (nI s)), (2, .int (isB (∃ s', s' < s ∧ mLs σ l c s'))), (0, .ref 232), (1, .int (nI c))] rfl rfl
                rw [isB_T trivial] at this
                exact this
