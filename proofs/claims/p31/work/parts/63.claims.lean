section
/-! the reference: CLAIMS -/
def mCl (σ : kS) (R C : Nat) : Prop := C ≤ 6 ∧ σ 232 30 = nI C ∧ ∀ c, c < C → ∃ b a nn j, b < R ∧ σ 258 c = nI b ∧ σ 259 c = nI a ∧ (σ 257 c ≠ 0 → a < fN (σ 244 b)) ∧ (σ 257 c = 0 → a < R) ∧ nn ≤ 6 ∧ σ 260 c = nI nn ∧ j ≤ 4 ∧ σ 261 c = nI j ∧ ∀ k, k < j → ∃ x y, x < fN (σ 244 b) ∧ y < fN (σ 244 a) ∧ a < R ∧ σ 262 (4 * c + k) = nI x ∧ σ 263 (4 * c + k) = nI y
/-- all PARAMETERS of the session s are HONEST -/
def mHo (σ : kS) (s : Nat) : Prop := ∀ k, k < fN (σ 244 (fN (σ 255 s))) → σ 246 (6 * fN (σ 255 s) + k) = 0 → σ 238 (fN (σ 265 (6 * s + k))) ≠ 0
set_option maxRecDepth 100000 in
set_option maxHeartbeats 4000000 in
theorem mr_isHonest (L : Nat) (xs : Nat → Int32) (d : Nat) (σ : kS) (n b R s dn : Nat) (h : mTb σ n b) (hR : mRo σ n R) (hs4 : s < 4) (hS : mSn σ n R s dn) : kXM kT L xs (d + 1) 185 [.ref 232, .int (nI s)] σ (fun r σ' => r = some (.int (isB (mHo σ s))) ∧ σ = σ') := by
  have hn := h.1
  obtain ⟨r, r1, r2, r3, r4, r5, r6⟩ := hS
  obtain ⟨⟨v, hv6, hv⟩, -⟩ := hR.2.2.1 r r1
  have hR4 := hR.1
  have hfv : fN (σ 244 r) = v := by rw [hv]; exact fN_nI (by omega)
  have hfr : fN (σ 255 s) = r := by rw [r2]; exact fN_nI (by omega)
  unfold kXM
  repeat refine kX_one rfl ?_
  refine kX_ialdV rfl rfl (by decide) (s) (by first | rfl | decide) (hs4) (r2) ?_
  iterate 3 (refine kX_one rfl ?_)
  iterate 2 (refine kX_one rfl ?_)
  have loop := kX_while (T := kT) (L := L) (xs := xs) (d := d + 1) (mi := 185) (pc := 12) (Q := fun r σ' => r = some (.int (isB (mHo σ s))) ∧ σ = σ')
    (fun k : Nat => [(4, .int (nI k)), (3, .int (isB (∀ i, i < k → σ 246 (6 * r + i) = 0 → σ 238 (fN (σ 265 (6 * s + i))) ≠ 0))), (2, .int (nI r)), (0, .ref 232), (1, .int (nI s))]) (fun _ => σ) (fun k => k ≤ v) (fun k => v - k) ?_ 0 (Nat.zero_le _)
  · refine kX_lv _ rfl rfl ?_ loop
    rw [isB_T (fun i hi => absurd hi (Nat.not_lt_zero i))]
    rfl
  · intro k hk ih
    have back : ∀ x : Int32, k < v → x = isB (∀ i, i < k + 1 → σ 246 (6 * r + i) = 0 → σ 238 (fN (σ 265 (6 * s + i))) ≠ 0) → kX kT L xs (d + 1) 185 67 [(4, .int (nI k)), (3, .int (isB (∀ i, i < k → σ 246 (6 * r + i) = 0 → σ 238 (fN (σ 265 (6 * s + i))) ≠ 0))), (2, .int (nI r)), (0, .ref 232), (1, .int (nI s))] [.int x] σ (fun r σ' => r = some (.int (isB (mHo σ s))) ∧ σ = σ') := by
      intro x hlt hx
      subst hx
      iterate 3 (refine kX_one rfl ?_)
      have := ih (k + 1) hlt (by omega)
      rw [← nI_1] at this
      exact this
    repeat refine kX_one rfl ?_
    refine kX_ialdV rfl rfl (by decide) (r) (by first | rfl | decide) (by omega) (hv) ?_
    repeat refine kX_one rfl ?_
    refine kX_if (fun q => ?_) (fun q => ?_)
    · have q := qge q k v
      obtain rfl : k = v := by omega
      iterate 1 (refine kX_one rfl ?_)
      refine kX_ret (i := .ireturn) (len := 1) rfl (Or.inr rfl) (jend_b rfl (isB_01 _)) (⟨?_, rfl⟩)
      unfold mHo
      rw [hfr, hfv]
    · have q := qgeF q k v
      obtain ⟨t, so, as, a1, a2, a3, a4, a5, a6, a7, a8, a9, -⟩ := hR.2.2.2.1 r k r1 (by omega)
      repeat refine kX_one rfl ?_
      refine kX_if (fun q2 => ?_) (fun q2 => ?_)
      · have q2 := fun z => isB_ne.mpr z (qeq q2)
        iterate 1 (refine kX_one rfl ?_)
        exact back _ q (isB_F (fun z => q2 (fun i hi => z i (by omega)))).symm
      · have q2 := isB_ne.mp (qeqF q2)
        repeat refine kX_one rfl ?_
        refine kX_ialdV (v := nI as) rfl rfl (by decide) (6 * r + k) (ix6 r k) (by omega) a9 ?_
        repeat refine kX_one rfl ?_
        refine kX_if (fun q3 => ?_) (fun q3 => ?_)
        · have q3 : nI as ≠ 0 := qne q3
          iterate 2 (refine kX_one rfl ?_)
          refine back _ q (isB_T (fun i hi => ?_)).symm
          by_cases e : i = k
          · subst e
            intro e0
            rw [a9] at e0
            exact absurd e0 q3
          · exact q2 i (by omega)
        · have q3 : nI as = 0 := qneF q3
          rcases r5 k (by omega) with ⟨-, w2⟩ | ⟨z, z1, z2, z3, z4, z5⟩
          · exfalso
            have := w2 (by omega)
            rw [a9, q3] at this
            exact absurd this (by decide)
          · repeat refine kX_one rfl ?_
            refine kX_ialdV (v := nI z) rfl rfl (by decide) (6 * s + k) (ix6 s k) (by omega) z2 ?_
            refine kX_baldN rfl rfl (by decide) (z) (by first | rfl | decide) (by omega) ?_
            have hz : fN (σ 265 (6 * s + k)) = z := by rw [z2]; exact fN_nI (by omega)
            repeat refine kX_one rfl ?_
            refine kX_if (fun q4 => ?_) (fun q4 => ?_)
            · have q4 := qeq q4
              iterate 1 (refine kX_one rfl ?_)
              refine back _ q (isB_F (fun w => ?_)).symm
              have := w k (by omega) (a9.trans q3)
              rw [hz] at this
              exact this q4
            · have q4 := qeqF q4
              iterate 2 (refine kX_one rfl ?_)
              refine back _ q (isB_T (fun i hi => ?_)).symm
              by_cases e : i = k
              · subst e
                intro _
                rw [hz]
                exact q4
              · exact q2 i (by omega)
/-- a SECRET is lost in the session s -/
def mLs (σ : kS) (l : rwT) (c s : Nat) : Prop := σ 255 s = σ 258 c ∧ ¬ σ 265 (6 * s + fN (σ 259 c)) < 0 ∧ mHo σ s ∧ mMk σ l (fN (σ 265 (6 * s + fN (σ 259 c))))
theorem rwF_Sn {σ τ : kS} {n b R s dn : Nat} (h : mTb σ n b) (hR : mRo σ n R) (hF : rwF σ τ) (hS : mSn σ n R s dn) : mSn τ n R s dn := mFr_Sn h hR (mFr_rwF hF) hS
set_option maxRecDepth 100000 in
set_option maxHeartbeats 4000000 in
theorem mr_isLost (L : Nat) (xs : Nat → Int32) (d : Nat) (σ : kS) (n b R S C c : Nat) (l : rwT) (h : mTb σ n b) (hR : mRo σ n R) (hS4 : S ≤ 4) (hS : mSv σ n R S) (hC : mCl σ R C) (hc : c < C) (hsec : σ 257 c ≠ 0) (hq : mRq σ (mvG σ n b) l) (hj : mJd σ n b l) : kXM kT L xs (d + 5) 186 [.ref 232, .int (nI c)] σ (fun r σ' => r = some (.int (isB (∃ s, s < S ∧ mLs σ l c s))) ∧ rwF σ σ' ∧ mRq σ' (mvG σ n b) l ∧ mJd σ' n b l) := by
  have hn := h.1
  obtain ⟨cb, ca, nn, j, c1, c2, c3, c4, -⟩ := hC.2.2 c hc
  have hca := c4 hsec
  obtain ⟨⟨v, hv6, hv⟩, -⟩ := hR.2.2.1 cb c1
  rw [hv, fN_nI (by omega)] at hca
  have hC6 := hC.1
  have hfa : fN (σ 259 c) = ca := by rw [c3]; exact fN_nI (by omega)
  unfold kXM
  iterate 4 (refine kX_one rfl ?_)
  have loop := kX_while (T := kT) (L := L) (xs := xs) (d := d + 5) (mi := 186) (pc := 4) (Q := fun r σ' => r = some (.int (isB (∃ s, s < S ∧ mLs σ l c s))) ∧ rwF σ σ' ∧ mRq σ' (mvG σ n b) l ∧ mJd σ' n b l)
    (fun q : Nat × kS => [(3, .int (nI q.1)), (2, .int (isB (∃ s, s < q.1 ∧ mLs σ l c s))), (0, .ref 232), (1, .int (nI c))]) (fun q => q.2) (fun q => q.1 ≤ S ∧ rwF σ q.2 ∧ mRq q.2 (mvG σ n b) l ∧ mJd q.2 n b l) (fun q => S - q.1) ?_ (0, σ) ⟨Nat.zero_le _, rwF_refl σ, hq, hj⟩
  · refine kX_lv _ rfl rfl ?_ loop
    rw [isB_F (fun ⟨s, hs, _⟩ => absurd hs (Nat.not_lt_zero s))]
    rfl
  · rintro ⟨s, τ⟩ ⟨i1, i2, i3, i4⟩ ih
    dsimp only at i1 i2 i3 i4 ih ⊢
    have hFr := mFr_rwF (n := n) i2
    have hSs : τ 232 27 = nI S := (hFr.2.1 _ (by decide)).trans hS.1
    have hcv : τ 265 = σ 265 := hFr.1 _ (by decide)
    have hcA : τ 259 = σ 259 := hFr.1 _ (by decide)
    have hcB : τ 258 = σ 258 := hFr.1 _ (by decide)
    have hcR : τ 255 = σ 255 := hFr.1 _ (by decide)
    have fin : ∀ P : Prop, isB (∃ s', s' < s ∧ mLs σ l c s') = isB P → (P ↔ ∃ s, s < S ∧ mLs σ l c s) → kX kT L xs (d + 5) 186 83 [(3, .int (nI s)), (2, .int (isB (∃ s', s' < s ∧ mLs σ l c s'))), (0, .ref 232), (1, .int (nI c))] [] τ (fun r σ' => r = some (.int (isB (∃ s, s < S ∧ mLs σ l c s))) ∧ rwF σ σ' ∧ mRq σ' (mvG σ n b) l ∧ mJd σ' n b l) := by
      intro P e hP
      iterate 1 (refine kX_one rfl ?_)
      refine kX_ret (i := .ireturn) (len := 1) rfl (Or.inr rfl) (jend_b rfl (isB_01 _)) (⟨by rw [e, propext hP], i2, i3, i4⟩)
    iterate 3 (refine kX_one rfl ?_)
    refine kX_top (hSs) ?_
    repeat refine kX_one rfl ?_
    refine kX_if (fun q => ?_) (fun q => ?_)
    · have q := qge q s S
      obtain rfl : s = S := by omega
      exact fin _ rfl Iff.rfl
    · have q := qgeF q s S
      have hs4 : s < 4 := by omega
      repeat refine kX_one rfl ?_
      refine kX_if (fun q2 => ?_) (fun q2 => ?_)
      · have q2 := isB_ne.mp (qne q2)
        refine fin _ rfl ⟨fun ⟨s', h1, h2⟩ => ⟨s', by omega, h2⟩, fun _ => q2⟩
      · have q2 := fun z => isB_ne.mpr z (qneF q2)
        have back : ∀ (τ2 : kS) (P : Prop), rwF σ τ2 → mRq τ2 (mvG σ n b) l → mJd τ2 n b l → (P ↔ mLs σ l c s) → ∀ lv, nk lv = true → ([(3, Value.int (nI s)), (0, .ref 232), (1, .int (nI c))] : jL).map (fun q => jl lv q.1) = ([(3, Value.int (nI s)), (0, .ref 232), (1, .int (nI c))] : jL).map (fun q => some q.2) → kX kT L xs (d + 5) 186 76 lv [.int (isB P)] τ2 (fun r σ' => r = some (.int (isB (∃ s, s < S ∧ mLs σ l c s))) ∧ rwF σ σ' ∧ mRq σ' (mvG σ n b) l ∧ mJd σ' n b l) := by
          intro τ2 P g1 g2 g3 g4 lv hk hlv
          refine kX_lv _ hk rfl hlv ?_
          iterate 3 (refine kX_one rfl ?_)
          have := ih (s + 1, τ2) ⟨by simp only; omega, g1, g2, g3⟩ (by simp only; omega)
          have e : isB (∃ s', s' < s + 1 ∧ mLs σ l c s') = isB P := by
            rw [propext (show (∃ s', s' < s + 1 ∧ mLs σ l c s') ↔ P from ⟨fun ⟨s', h1, h2⟩ => by
              by_cases e : s' = s
              · subst e
                exact g4.mpr h2
              · exact absurd ⟨s', by omega, h2⟩ q2, fun z => ⟨s, by omega, g4.mp z⟩⟩)]
          simp only at this
          rw [e, ← nI_1] at this
          exact kX_lv _ rfl rfl rfl this
        have no : ∀ (τ2 : kS), rwF σ τ2 → mRq τ2 (mvG σ n b) l → mJd τ2 n b l → ¬ mLs σ l c s → ∀ lv, nk lv = true → ([(3, Value.int (nI s)), (0, .ref 232), (1, .int (nI c))] : jL).map (fun q => jl lv q.1) = ([(3, Value.int (nI s)), (0, .ref 232), (1, .int (nI c))] : jL).map (fun q => some q.2) → kX kT L xs (d + 5) 186 75 lv [] τ2 (fun r σ' => r = some (.int (isB (∃ s, s < S ∧ mLs σ l c s))) ∧ rwF σ σ' ∧ mRq σ' (mvG σ n b) l ∧ mJd σ' n b l) := by
          intro τ2 g1 g2 g3 g4 lv hk hlv
          iterate 1 (refine kX_one rfl ?_)
          have := back τ2 False g1 g2 g3 ⟨False.elim, g4⟩ lv hk hlv
          rw [isB_F id] at this
          exact this
        obtain ⟨r, r1, r2, r3, r4, r5, r6⟩ := hS.2 s q
        repeat refine kX_one rfl ?_
        refine kX_ialdV (v := nI ca) rfl rfl (by decide) c rfl (by omega) (by rw [hcA]; exact c3) ?_
        iterate 1 (refine kX_one rfl ?_)
        refine kX_ialdV (v := σ 265 (6 * s + ca)) rfl rfl (by decide) (6 * s + ca) (ix6 s ca) (by omega) (by rw [hcv]) ?_
        repeat refine kX_one rfl ?_
        refine kX_ialdV (v := σ 255 s) rfl rfl (by decide) s rfl (by omega) (by rw [hcR]) ?_
        repeat refine kX_one rfl ?_
        refine kX_ialdV (v := σ 258 c) rfl rfl (by decide) c rfl (by omega) (by rw [hcB]) ?_
        repeat refine kX_one rfl ?_
        refine kX_if (fun q3 => ?_) (fun q3 => ?_)
        · exact no τ i2 i3 i4 (fun z => qne q3 z.1) _ rfl rfl
        · have q3 : σ 255 s = σ 258 c := qneF q3
          repeat refine kX_one rfl ?_
          refine kX_if (fun q4 => ?_) (fun q4 => ?_)
          · have q4 : σ 265 (6 * s + ca) < 0 := of_decide_eq_true q4
            exact no τ i2 i3 i4 (fun z => z.2.1 (by rw [hfa]; exact q4)) _ rfl rfl
          · have q4 : ¬ σ 265 (6 * s + ca) < 0 := of_decide_eq_false q4
            have hz : ∃ z, z < n ∧ σ 265 (6 * s + ca) = nI z := by
              rcases r5 ca (by omega) with ⟨w1, -⟩ | ⟨z, z1, z2, -⟩
              · rw [w1] at q4
                exact absurd (by decide) q4
              · exact ⟨z, z1, z2⟩
            obtain ⟨z, z1, z2⟩ := hz
            have hsn := rwF_Sn h hR i2 (hS.2 s q)
            have hT := rwF_Tb i2 h
            repeat refine kX_one rfl ?_
            refine kX_cal (mr_isHonest L xs (d + 3) τ n b R s _ hT (mFr_Ro h hFr hR) hs4 hsn) rfl (Or.inr rfl) rfl rfl rfl (fun r1 σ2 q1 => ?_)
            obtain ⟨rfl, hσ9⟩ := q1
            obtain rfl := hσ9
            have hHo : mHo τ s ↔ mHo σ s := by
              obtain ⟨⟨_, _, _, _, _, _, rfl⟩, -⟩ := i2
              exact Iff.rfl
            repeat refine kX_one rfl ?_
            refine kX_if (fun q5 => ?_) (fun q5 => ?_)
            · have q5 : ¬ mHo σ s := fun w => isB_ne.mpr (hHo.mpr w) (qeq q5)
              exact no τ i2 i3 i4 (fun w => q5 w.2.2.1) _ rfl rfl
            · have q5 : mHo σ s := hHo.mp (isB_ne.mp (qeqF q5))
              iterate 2 (refine kX_one rfl ?_)
              refine kX_top (z2) ?_
              refine kX_cal (mr_canMake L xs d τ n b l z hT (by rw [rwF_mvG i2]; exact i3) i4 (Or.inl z1)) rfl (Or.inr rfl) rfl rfl rfl (fun r1 σ2 q1 => ?_)
              obtain ⟨rfl, M, rfl, f3⟩ := q1
              have hMk : mMk τ l z ↔ mMk σ l z := by
                obtain ⟨⟨_, _, _, _, _, _, rfl⟩, -⟩ := i2
                exact Iff.rfl
              have hfz : fN (σ 265 (6 * s + fN (σ 259 c))) = z := by rw [hfa, z2]; exact fN_nI (by omega)
              have hF2 := rwF_trans i2 (rwF_cmS (σ := τ) (M := M) (x := nI b) (y := nI l.length))
              repeat refine kX_one rfl ?_
              refine kX_if (fun q6 => ?_) (fun q6 => ?_)
              · have q6 : ¬ mMk σ l z := fun w => isB_ne.mpr (hMk.mpr w) (qeq q6)
                exact no _ hF2 i3 f3 (fun w => q6 (by have := w.2.2.2; rw [hfz] at this; exact this)) _ rfl rfl
              · have q6 : mMk σ l z := hMk.mp (isB_ne.mp (qeqF q6))
                iterate 2 (refine kX_one rfl ?_)
                have := back _ True hF2 i3 f3 ⟨fun _ => ⟨q3, by rw [hfa]; exact q4, q5, by rw [hfz]; exact q6⟩, fun _ => trivial⟩ [(4, .int (σ 265 (6 * s + ca))), (3, .int (nI s)), (2, .int (isB (∃ s', s' < s ∧ mLs σ l c s'))), (0, .ref 232), (1, .int (nI c))] rfl rfl
                rw [isB_T trivial] at this
                exact this
end
section
/-! the reference: fits, isApart, isBroken -/
theorem isB_iff {P Q : Prop} (h : P ↔ Q) : isB P = isB Q := by rw [propext h]
theorem ix4 (c k : Nat) : Int32.ofInt 4 * nI c + nI k = nI (4 * c + k) := by
  rw [show Int32.ofInt 4 = nI 4 from rfl, pk_mul, nI_add]
def mJn (σ : kS) (c s o k : Nat) : Prop := ¬ σ 265 (6 * s + fN (σ 262 (4 * c + k))) < 0 ∧ σ 265 (6 * s + fN (σ 262 (4 * c + k))) = σ 265 (6 * o + fN (σ 263 (4 * c + k)))
/-- the session o may be the partner of s -/
def mFit (σ : kS) (c s o : Nat) : Prop := (s ≠ o ∧ σ 255 o = σ 259 c ∧ σ 260 c ≤ σ 264 o) ∧ ∀ k, k < fN (σ 261 c) → mJn σ c s o k
set_option maxRecDepth 100000 in
set_option maxHeartbeats 4000000 in
theorem mr_fits (L : Nat) (xs : Nat → Int32) (d : Nat) (σ : kS) (n R C c s o : Nat) (hR : mRo σ n R) (hC : mCl σ R C) (hc : c < C) (hs : s < 4) (ho : o < 4) : kXM kT L xs (d + 1) 187 [.ref 232, .int (nI c), .int (nI s), .int (nI o)] σ (fun r σ' => r = some (.int (isB (mFit σ c s o))) ∧ σ = σ') := by
  obtain ⟨cb, ca, nn, j, c1, c2, c3, -, -, c6, c7, c8, c9, c10⟩ := hC.2.2 c hc
  have hC6 := hC.1
  have hvs : ∀ r, r < R → fN (σ 244 r) ≤ 6 := fun r hr => by
    obtain ⟨⟨v, h1, h2⟩, -⟩ := hR.2.2.1 r hr
    rw [h2, fN_nI (by omega)]
    exact h1
  have hfj : fN (σ 261 c) = j := by rw [c9]; exact fN_nI (by omega)
  unfold kXM
  have loop := kX_while (T := kT) (L := L) (xs := xs) (d := d + 1) (mi := 187) (pc := 45) (Q := fun r σ' => r = some (.int (isB (mFit σ c s o))) ∧ σ = σ')
    (fun k : Nat => [(5, .int (nI k)), (4, .int (isB ((s ≠ o ∧ σ 255 o = σ 259 c ∧ σ 260 c ≤ σ 264 o) ∧ ∀ i, i < k → mJn σ c s o i))), (0, .ref 232), (1, .int (nI c)), (2, .int (nI s)), (3, .int (nI o))]) (fun _ => σ) (fun k => k ≤ j) (fun k => j - k) ?_ 0 (Nat.zero_le _)
  · have head : ∀ P : Prop, (P ↔ (s ≠ o ∧ σ 255 o = σ 259 c ∧ σ 260 c ≤ σ 264 o)) → kX kT L xs (d + 1) 187 40 [(0, .ref 232), (1, .int (nI c)), (2, .int (nI s)), (3, .int (nI o))] [.int (isB P)] σ (fun r σ' => r = some (.int (isB (mFit σ c s o))) ∧ σ = σ') := by
      intro P hP
      iterate 3 (refine kX_one rfl ?_)
      refine kX_lv _ rfl rfl ?_ loop
      have e : isB ((s ≠ o ∧ σ 255 o = σ 259 c ∧ σ 260 c ≤ σ 264 o) ∧ ∀ i, i < 0 → mJn σ c s o i) = isB P := by
        exact isB_iff ⟨fun z => hP.mpr z.1, fun z => ⟨hP.mp z, fun i hi => absurd hi (Nat.not_lt_zero i)⟩⟩
      rw [e]
      rfl
    have no : ¬ (s ≠ o ∧ σ 255 o = σ 259 c ∧ σ 260 c ≤ σ 264 o) → kX kT L xs (d + 1) 187 39 [(0, .ref 232), (1, .int (nI c)), (2, .int (nI s)), (3, .int (nI o))] [] σ (fun r σ' => r = some (.int (isB (mFit σ c s o))) ∧ σ = σ') := by
      intro hz
      iterate 1 (refine kX_one rfl ?_)
      have := head False ⟨False.elim, hz⟩
      rw [isB_F id] at this
      exact this
    repeat refine kX_one rfl ?_
    refine kX_if (fun q => ?_) (fun q => ?_)
    · exact no (fun z => z.1 (nI_inj (qeq q)))
    · have q : s ≠ o := fun e => qeqF q (by rw [e])
      repeat refine kX_one rfl ?_
      refine kX_ialdN rfl rfl (by decide) (o) (by first | rfl | decide) (ho) ?_
      repeat refine kX_one rfl ?_
      refine kX_ialdN rfl rfl (by decide) (c) (by first | rfl | decide) (by omega) ?_
      repeat refine kX_one rfl ?_
      refine kX_if (fun q2 => ?_) (fun q2 => ?_)
      · exact no (fun z => qne q2 z.2.1)
      · have q2 := qneF q2
        repeat refine kX_one rfl ?_
        refine kX_ialdN rfl rfl (by decide) (o) (by first | rfl | decide) (ho) ?_
        repeat refine kX_one rfl ?_
        refine kX_ialdN rfl rfl (by decide) (c) (by first | rfl | decide) (by omega) ?_
        repeat refine kX_one rfl ?_
        refine kX_if (fun q3 => ?_) (fun q3 => ?_)
        · have q3 : σ 264 o < σ 260 c := of_decide_eq_true q3
          exact no (fun z => Int32.not_le.mpr q3 z.2.2)
        · have q3 : σ 260 c ≤ σ 264 o := Int32.not_lt.mp (of_decide_eq_false q3)
          iterate 2 (refine kX_one rfl ?_)
          have := head True ⟨fun _ => ⟨q, q2, q3⟩, fun _ => trivial⟩
          rw [isB_T trivial] at this
          exact this
  · intro k hk ih
    have fin : (isB ((s ≠ o ∧ σ 255 o = σ 259 c ∧ σ 260 c ≤ σ 264 o) ∧ ∀ i, i < k → mJn σ c s o i) = isB (mFit σ c s o)) → kX kT L xs (d + 1) 187 128 [(5, .int (nI k)), (4, .int (isB ((s ≠ o ∧ σ 255 o = σ 259 c ∧ σ 260 c ≤ σ 264 o) ∧ ∀ i, i < k → mJn σ c s o i))), (0, .ref 232), (1, .int (nI c)), (2, .int (nI s)), (3, .int (nI o))] [] σ (fun r σ' => r = some (.int (isB (mFit σ c s o))) ∧ σ = σ') := by
      intro e
      iterate 1 (refine kX_one rfl ?_)
      refine kX_ret (i := .ireturn) (len := 1) rfl (Or.inr rfl) (jend_b rfl (isB_01 _)) (⟨by rw [e], rfl⟩)
    repeat refine kX_one rfl ?_
    refine kX_ialdV rfl rfl (by decide) (c) (by first | rfl | decide) (by omega) (c9) ?_
    repeat refine kX_one rfl ?_
    refine kX_if (fun q => ?_) (fun q => ?_)
    · have q := qge q k j
      obtain rfl : k = j := by omega
      refine fin ?_
      unfold mFit
      rw [hfj]
    · have q := qgeF q k j
      repeat refine kX_one rfl ?_
      refine kX_if (fun q2 => ?_) (fun q2 => ?_)
      · have q2 := fun z => isB_ne.mpr z (qeq q2)
        refine fin ?_
        rw [isB_F q2, isB_F (fun z => q2 ⟨z.1, fun i hi => z.2 i (by omega)⟩)]
      · have q2 := isB_ne.mp (qeqF q2)
        obtain ⟨x, y, x1, y1, y2, x3, y3⟩ := c10 k q
        have hx6 := hvs cb c1
        have hy6 := hvs ca y2
        have hfx : fN (σ 262 (4 * c + k)) = x := by rw [x3]; exact fN_nI (by omega)
        have hfy : fN (σ 263 (4 * c + k)) = y := by rw [y3]; exact fN_nI (by omega)
        have back : ∀ P : Prop, (P ↔ mJn σ c s o k) → ∀ lv, nk lv = true → ([(5, Value.int (nI k)), (0, .ref 232), (1, .int (nI c)), (2, .int (nI s)), (3, .int (nI o))] : jL).map (fun q => jl lv q.1) = ([(5, Value.int (nI k)), (0, .ref 232), (1, .int (nI c)), (2, .int (nI s)), (3, .int (nI o))] : jL).map (fun q => some q.2) → kX kT L xs (d + 1) 187 120 lv [.int (isB P)] σ (fun r σ' => r = some (.int (isB (mFit σ c s o))) ∧ σ = σ') := by
          intro P hP lv hkk hlv
          refine kX_lv _ hkk rfl hlv ?_
          iterate 3 (refine kX_one rfl ?_)
          have := ih (k + 1) q (by omega)
          have e : isB ((s ≠ o ∧ σ 255 o = σ 259 c ∧ σ 260 c ≤ σ 264 o) ∧ ∀ i, i < k + 1 → mJn σ c s o i) = isB P := by
            refine isB_iff ⟨fun z => hP.mpr (z.2 k (by omega)), fun z => ⟨q2.1, fun i hi => ?_⟩⟩
            by_cases e : i = k
            · subst e
              exact hP.mp z
            · exact q2.2 i (by omega)
          rw [e, ← nI_1] at this
          exact kX_lv _ rfl rfl rfl this
        have no : ¬ mJn σ c s o k → ∀ lv, nk lv = true → ([(5, Value.int (nI k)), (0, .ref 232), (1, .int (nI c)), (2, .int (nI s)), (3, .int (nI o))] : jL).map (fun q => jl lv q.1) = ([(5, Value.int (nI k)), (0, .ref 232), (1, .int (nI c)), (2, .int (nI s)), (3, .int (nI o))] : jL).map (fun q => some q.2) → kX kT L xs (d + 1) 187 119 lv [] σ (fun r σ' => r = some (.int (isB (mFit σ c s o))) ∧ σ = σ') := by
          intro hz lv hkk hlv
          iterate 1 (refine kX_one rfl ?_)
          have := back False ⟨False.elim, hz⟩ lv hkk hlv
          rw [isB_F id] at this
          exact this
        repeat refine kX_one rfl ?_
        refine kX_ialdV (v := nI x) rfl rfl (by decide) (4 * c + k) (ix4 c k) (by omega) x3 ?_
        iterate 1 (refine kX_one rfl ?_)
        refine kX_ialdN rfl rfl (by decide) (6 * s + x) (ix6 s x) (by omega) ?_
        repeat refine kX_one rfl ?_
        refine kX_if (fun q3 => ?_) (fun q3 => ?_)
        · have q3 : σ 265 (6 * s + x) < 0 := of_decide_eq_true q3
          exact no (fun z => z.1 (by rw [hfx]; exact q3)) _ rfl rfl
        · have q3 : ¬ σ 265 (6 * s + x) < 0 := of_decide_eq_false q3
          repeat refine kX_one rfl ?_
          refine kX_ialdV (v := nI y) rfl rfl (by decide) (4 * c + k) (ix4 c k) (by omega) y3 ?_
          iterate 1 (refine kX_one rfl ?_)
          refine kX_ialdN rfl rfl (by decide) (6 * o + y) (ix6 o y) (by omega) ?_
          repeat refine kX_one rfl ?_
          refine kX_if (fun q4 => ?_) (fun q4 => ?_)
          · have q4 : σ 265 (6 * s + x) ≠ σ 265 (6 * o + y) := qne q4
            exact no (fun z => q4 (by have := z.2; rw [hfx, hfy] at this; exact this)) _ rfl rfl
          · have q4 : σ 265 (6 * s + x) = σ 265 (6 * o + y) := qneF q4
            iterate 2 (refine kX_one rfl ?_)
            have := back True ⟨fun _ => ⟨by rw [hfx]; exact q3, by rw [hfx, hfy]; exact q4⟩, fun _ => trivial⟩ [(6, .int (σ 265 (6 * s + x))), (5, .int (nI k)), (4, .int (isB ((s ≠ o ∧ σ 255 o = σ 259 c ∧ σ 260 c ≤ σ 264 o) ∧ ∀ i, i < k → mJn σ c s o i))), (0, .ref 232), (1, .int (nI c)), (2, .int (nI s)), (3, .int (nI o))] rfl rfl
            rw [isB_T trivial] at this
            exact this
end
section
/-! the reference: isApart, isBroken -/
theorem bl_all : ∀ m, m < 5 → Int32.ofInt 1 <<< ((Int32.ofInt 2 * nI m) &&& 31) = nI (4 ^ m) := by decide +kernel
theorem bl_dig : ∀ code, code < 256 → ∀ k, k < 4 → (nI code >>> ((Int32.ofInt 2 * nI k) &&& 31)) &&& Int32.ofInt 3 = nI (code / 4 ^ k % 4) := by decide +kernel
theorem bl_bit : ∀ m, m < 16 → ∀ o, o < 4 → (nI m >>> (nI o &&& 31)) &&& Int32.ofInt 1 = nI (m / 2 ^ o % 2) := by decide +kernel
def orb (m o : Nat) : Nat := if m / 2 ^ o % 2 = 1 then m else m + 2 ^ o
theorem bl_or : ∀ m, m < 16 → ∀ o, o < 4 → nI m ||| (Int32.ofInt 1 <<< (nI o &&& 31)) = nI (orb m o) := by decide +kernel
theorem orb_lt : ∀ m, m < 16 → ∀ o, o < 4 → orb m o < 16 ∧ ∀ o', o' < 4 → (orb m o / 2 ^ o' % 2 = 1 ↔ o' = o ∨ m / 2 ^ o' % 2 = 1) := by decide +kernel
/-- a session that asks for a partner -/
def mWt (σ : kS) (c s : Nat) : Prop := σ 255 s = σ 258 c ∧ σ 264 s = σ 247 (fN (σ 258 c)) ∧ mHo σ s
noncomputable def wsL (σ : kS) (c : Nat) : Nat → List Nat
  | 0 => []
  | s + 1 => cit (mWt σ c s) (wsL σ c s ++ [s]) (wsL σ c s)
theorem wsL_le (σ : kS) (c : Nat) : ∀ s, (wsL σ c s).length ≤ s ∧ ∀ u ∈ wsL σ c s, u < s
  | 0 => ⟨Nat.le_refl _, fun u hu => by cases hu⟩
  | s + 1 => by
    obtain ⟨h1, h2⟩ := wsL_le σ c s
    unfold wsL
    by_cases hm : mWt σ c s
    · rw [cit_T hm]
      refine ⟨by rw [List.length_append]; simp; omega, fun u hu => ?_⟩
      rcases List.mem_append.mp hu with hu | hu
      · have := h2 u hu
        omega
      · rw [List.mem_singleton] at hu
        omega
    · rw [cit_F hm]
      exact ⟨by omega, fun u hu => by have := h2 u hu; omega⟩
def dig (code k : Nat) : Nat := code / 4 ^ k % 4
/-- by this code the session at place k of ws has its partner -/
def mP1 (σ : kS) (c S : Nat) (ws : List Nat) (code k : Nat) : Prop := dig code k < S ∧ (∀ i, i < k → dig code i ≠ dig code k) ∧ mFit σ c (ws.getD k 0) (dig code k)
def mOkc (σ : kS) (c S : Nat) (ws : List Nat) (code : Nat) : Prop := ∀ k, k < ws.length → mP1 σ c S ws code k
set_option maxRecDepth 100000 in
set_option maxHeartbeats 4000000 in
theorem mr_isApart (L : Nat) (xs : Nat → Int32) (d : Nat) (σ : kS) (n b R S C c : Nat) (h : mTb σ n b) (hR : mRo σ n R) (hS4 : S ≤ 4) (hS : mSv σ n R S) (hC : mCl σ R C) (hc : c < C) : kXM kT L xs (d + 2) 188 [.ref 232, .int (nI c)] σ (fun r σ' => r = some (.int (isB (¬ ∃ code, code < 4 ^ (wsL σ c S).length ∧ mOkc σ c S (wsL σ c S) code))) ∧ ∃ W, σ' = va_up σ 273 W) := by
  have hn := h.1
  obtain ⟨cb, ca, nn, j, c1, c2, c3, -⟩ := hC.2.2 c hc
  have hC6 := hC.1
  have hR4 := hR.1
  have hfb : fN (σ 258 c) = cb := by rw [c2]; exact fN_nI (by omega)
  unfold kXM
  /- the codes -/
  have codes : ∀ W : Nat → Int32, lst W (wsL σ c S) → kX kT L xs (d + 2) 188 71 [(2, .int (nI (wsL σ c S).length)), (0, .ref 232), (1, .int (nI c))] [] (va_up σ 273 W) (fun r σ' => r = some (.int (isB (¬ ∃ code, code < 4 ^ (wsL σ c S).length ∧ mOkc σ c S (wsL σ c S) code))) ∧ ∃ W, σ' = va_up σ 273 W) := by
    intro W hW
    obtain ⟨hwl, hwm⟩ := wsL_le σ c S
    generalize hws : wsL σ c S = ws at hW hwl hwm
    obtain ⟨m, hm⟩ : ∃ m, ws.length = m := ⟨_, rfl⟩
    rw [hm] at hwl ⊢
    have h256 : 4 ^ m ≤ 256 := by
      obtain rfl | rfl | rfl | rfl | rfl : m = 0 ∨ m = 1 ∨ m = 2 ∨ m = 3 ∨ m = 4 := by omega
      all_goals decide
    iterate 5 (refine kX_one rfl ?_)
    refine kX_top (bl_all m (by omega)) ?_
    iterate 5 (refine kX_one rfl ?_)
    have loop := kX_while (T := kT) (L := L) (xs := xs) (d := d + 2) (mi := 188) (pc := 83) (Q := fun r σ' => r = some (.int (isB (¬ ∃ code, code < 4 ^ m ∧ mOkc σ c S ws code))) ∧ ∃ W, σ' = va_up σ 273 W)
      (fun q : Nat => [(5, .int (nI q)), (4, .int (isB (∃ code, code < q ∧ mOkc σ c S ws code))), (3, .int (nI (4 ^ m))), (2, .int (nI m)), (0, .ref 232), (1, .int (nI c))]) (fun _ => va_up σ 273 W) (fun q => q ≤ 4 ^ m) (fun q => 4 ^ m - q) ?_ 0 (Nat.zero_le _)
    · refine kX_lv _ rfl rfl ?_ loop
      rw [isB_F (fun ⟨z, hz, _⟩ => absurd hz (Nat.not_lt_zero z))]
      rfl
    · intro code hcode ih
      have fin : ∀ P : Prop, ((∃ z, z < code ∧ mOkc σ c S ws z) ↔ ∃ z, z < 4 ^ m ∧ mOkc σ c S ws z) → kX kT L xs (d + 2) 188 189 [(5, .int (nI code)), (4, .int (isB (∃ z, z < code ∧ mOkc σ c S ws z))), (3, .int (nI (4 ^ m))), (2, .int (nI m)), (0, .ref 232), (1, .int (nI c))] [] (va_up σ 273 W) (fun r σ' => r = some (.int (isB (¬ ∃ code, code < 4 ^ m ∧ mOkc σ c S ws code))) ∧ ∃ W, σ' = va_up σ 273 W) := by
        intro _ hiff
        rw [isB_iff hiff]
        repeat refine kX_one rfl ?_
        refine kX_if (fun q => ?_) (fun q => ?_)
        · have q := isB_ne.mp (qne q)
          repeat refine kX_one rfl ?_
          refine kX_ret (i := .ireturn) (len := 1) rfl (Or.inr rfl) rfl (⟨by rw [isB_F (fun z => z q)]; rfl, W, rfl⟩)
        · have q := fun z => isB_ne.mpr z (qneF q)
          repeat refine kX_one rfl ?_
          refine kX_ret (i := .ireturn) (len := 1) rfl (Or.inr rfl) rfl (⟨by rw [isB_T q]; rfl, W, rfl⟩)
      repeat refine kX_one rfl ?_
      refine kX_if (fun q => ?_) (fun q => ?_)
      · have q := qge q code (4 ^ m)
        obtain rfl : code = 4 ^ m := by omega
        exact fin True Iff.rfl
      · have q := qgeF q code (4 ^ m)
        repeat refine kX_one rfl ?_
        refine kX_if (fun q2 => ?_) (fun q2 => ?_)
        · have q2 := isB_ne.mp (qne q2)
          refine fin True ⟨fun ⟨z, h1, h2⟩ => ⟨z, by omega, h2⟩, fun _ => q2⟩
        · have q2 := fun z => isB_ne.mpr z (qneF q2)
          have next : ∀ P : Prop, (P ↔ mOkc σ c S ws code) → ∀ lv, nk lv = true → ([(5, Value.int (nI code)), (4, .int (isB P)), (3, .int (nI (4 ^ m))), (2, .int (nI m)), (0, .ref 232), (1, .int (nI c))] : jL).map (fun q => jl lv q.1) = ([(5, Value.int (nI code)), (4, .int (isB P)), (3, .int (nI (4 ^ m))), (2, .int (nI m)), (0, .ref 232), (1, .int (nI c))] : jL).map (fun q => some q.2) → kX kT L xs (d + 2) 188 183 lv [] (va_up σ 273 W) (fun r σ' => r = some (.int (isB (¬ ∃ code, code < 4 ^ m ∧ mOkc σ c S ws code))) ∧ ∃ W, σ' = va_up σ 273 W) := by
            intro P hP lv hk hlv
            refine kX_lv _ hk rfl hlv ?_
            iterate 2 (refine kX_one rfl ?_)
            have := ih (code + 1) (by omega) (by omega)
            have e : isB (∃ z, z < code + 1 ∧ mOkc σ c S ws z) = isB P := by
              refine isB_iff ⟨fun ⟨z, h1, h2⟩ => ?_, fun z => ⟨code, by omega, hP.mp z⟩⟩
              by_cases e : z = code
              · subst e
                exact hP.mpr h2
              · exact absurd ⟨z, by omega, h2⟩ q2
            rw [e, ← nI_1] at this
            exact this
          iterate 6 (refine kX_one rfl ?_)
          have inner := kX_while (T := kT) (L := L) (xs := xs) (d := d + 2) (mi := 188) (pc := 103) (Q := fun r σ' => r = some (.int (isB (¬ ∃ code, code < 4 ^ m ∧ mOkc σ c S ws code))) ∧ ∃ W, σ' = va_up σ 273 W)
            (fun q : Nat × Nat => [(7, .int (nI q.1)), (6, .int (nI q.2)), (4, .int (isB (∀ i, i < q.1 → mP1 σ c S ws code i))), (5, .int (nI code)), (3, .int (nI (4 ^ m))), (2, .int (nI m)), (0, .ref 232), (1, .int (nI c))]) (fun _ => va_up σ 273 W) (fun q => q.1 ≤ m ∧ q.2 < 16 ∧ ∀ o, o < 4 → (q.2 / 2 ^ o % 2 = 1 ↔ ∃ i, i < q.1 ∧ dig code i = o)) (fun q => m - q.1) ?_ (0, 0) ⟨Nat.zero_le _, by simp, fun o ho => by
              simp only
              rw [Nat.zero_div]
              exact ⟨fun z => absurd z (by decide), fun ⟨i, hi, _⟩ => absurd hi (Nat.not_lt_zero i)⟩⟩
          · refine kX_lv _ rfl rfl ?_ inner
            rw [isB_T (fun i hi => absurd hi (Nat.not_lt_zero i))]
            rfl
          · rintro ⟨k, tk⟩ ⟨i1, i2, i3⟩ ih2
            dsimp only at i1 i2 i3 ih2 ⊢
            repeat refine kX_one rfl ?_
            refine kX_if (fun q3 => ?_) (fun q3 => ?_)
            · have q3 := qge q3 k m
              obtain rfl : k = m := by omega
              refine next _ ?_ _ rfl rfl
              unfold mOkc
              rw [hm]
            · have q3 := qgeF q3 k m
              repeat refine kX_one rfl ?_
              refine kX_if (fun q4 => ?_) (fun q4 => ?_)
              · have q4 := fun z => isB_ne.mpr z (qeq q4)
                refine next _ ⟨fun z => absurd z q4, fun z => absurd (fun i hi => z i (by omega)) q4⟩ _ rfl rfl
              · have q4 := isB_ne.mp (qeqF q4)
                have hdg : dig code k < 4 := Nat.mod_lt _ (by decide)
                have hwk : W k = nI (ws.getD k 0) := by
                  rw [List.getD_eq_getElem?_getD, List.getElem?_eq_getElem (by omega)]
                  exact hW k (by omega)
                have hwk4 : ws.getD k 0 < 4 := by
                  rw [List.getD_eq_getElem?_getD, List.getElem?_eq_getElem (by omega)]
                  have := hwm ws[k] (List.getElem_mem (by omega))
                  show ws[k] < 4
                  omega
                iterate 6 (refine kX_one rfl ?_)
                iterate 1 (refine kX_one rfl ?_)
                refine kX_top (bl_dig code (by omega) k (by omega)) ?_
                /- behind the test -/
                have step : ∀ P : Prop, (P ↔ mP1 σ c S ws code k) → ∀ lv, nk lv = true → ([(8, Value.int (nI (dig code k))), (7, .int (nI k)), (6, .int (nI tk)), (5, .int (nI code)), (3, .int (nI (4 ^ m))), (2, .int (nI m)), (0, .ref 232), (1, .int (nI c))] : jL).map (fun q => jl lv q.1) = ([(8, Value.int (nI (dig code k))), (7, .int (nI k)), (6, .int (nI tk)), (5, .int (nI code)), (3, .int (nI (4 ^ m))), (2, .int (nI m)), (0, .ref 232), (1, .int (nI c))] : jL).map (fun q => some q.2) → kX kT L xs (d + 2) 188 166 lv [.int (isB P)] (va_up σ 273 W) (fun r σ' => r = some (.int (isB (¬ ∃ code, code < 4 ^ m ∧ mOkc σ c S ws code))) ∧ ∃ W, σ' = va_up σ 273 W) := by
                  intro P hP lv hk hlv
                  refine kX_lv _ hk rfl hlv ?_
                  obtain ⟨o1, o2⟩ := orb_lt tk i2 (dig code k) hdg
                  iterate 6 (refine kX_one rfl ?_)
                  refine kX_top (bl_or tk i2 (dig code k) hdg) ?_
                  iterate 3 (refine kX_one rfl ?_)
                  have := ih2 (k + 1, orb tk (dig code k)) ⟨by simp only; omega, o1, fun o ho => by
                    simp only
                    rw [o2 o ho, i3 o ho]
                    constructor
                    · rintro (rfl | ⟨i, hi, e⟩)
                      · exact ⟨k, by omega, rfl⟩
                      · exact ⟨i, by omega, e⟩
                    · rintro ⟨i, hi, e⟩
                      by_cases ei : i = k
                      · subst ei
                        exact Or.inl e.symm
                      · exact Or.inr ⟨i, by omega, e⟩⟩ (by simp only; omega)
                  have e : isB (∀ i, i < k + 1 → mP1 σ c S ws code i) = isB P := by
                    refine isB_iff ⟨fun z => hP.mpr (z k (by omega)), fun z i hi => ?_⟩
                    by_cases ei : i = k
                    · subst ei
                      exact hP.mp z
                    · exact q4 i (by omega)
                  simp only at this
                  rw [e, ← nI_1] at this
                  exact kX_lv _ rfl rfl rfl this
                have no : ¬ mP1 σ c S ws code k → ∀ lv, nk lv = true → ([(8, Value.int (nI (dig code k))), (7, .int (nI k)), (6, .int (nI tk)), (5, .int (nI code)), (3, .int (nI (4 ^ m))), (2, .int (nI m)), (0, .ref 232), (1, .int (nI c))] : jL).map (fun q => jl lv q.1) = ([(8, Value.int (nI (dig code k))), (7, .int (nI k)), (6, .int (nI tk)), (5, .int (nI code)), (3, .int (nI (4 ^ m))), (2, .int (nI m)), (0, .ref 232), (1, .int (nI c))] : jL).map (fun q => some q.2) → kX kT L xs (d + 2) 188 165 lv [] (va_up σ 273 W) (fun r σ' => r = some (.int (isB (¬ ∃ code, code < 4 ^ m ∧ mOkc σ c S ws code))) ∧ ∃ W, σ' = va_up σ 273 W) := by
                  intro hz lv hk hlv
                  iterate 1 (refine kX_one rfl ?_)
                  have := step False ⟨False.elim, hz⟩ lv hk hlv
                  rw [isB_F id] at this
                  exact this
                iterate 4 (refine kX_one rfl ?_)
                refine kX_top (hS.1) ?_
                repeat refine kX_one rfl ?_
                refine kX_if (fun q5 => ?_) (fun q5 => ?_)
                · have q5 := qge q5 (dig code k) S
                  exact no (fun z => by have := z.1; omega) _ rfl rfl
                · have q5 := qgeF q5 (dig code k) S
                  iterate 5 (refine kX_one rfl ?_)
                  refine kX_top (bl_bit tk i2 (dig code k) hdg) ?_
                  have hb2 : tk / 2 ^ dig code k % 2 < 2 := Nat.mod_lt _ (by decide)
                  repeat refine kX_one rfl ?_
                  refine kX_if (fun q6 => ?_) (fun q6 => ?_)
                  · have q6 := qne q6
                    have : tk / 2 ^ dig code k % 2 = 1 := by
                      have : tk / 2 ^ dig code k % 2 ≠ 0 := fun e => q6 (by rw [e]; rfl)
                      omega
                    obtain ⟨i, hi, ei⟩ := (i3 _ hdg).mp this
                    exact no (fun z => z.2.1 i hi ei) _ rfl rfl
                  · have q6 : nI (tk / 2 ^ dig code k % 2) = 0 := qneF q6
                    have q6' : ¬ ∃ i, i < k ∧ dig code i = dig code k := fun z => by
                      rw [(i3 _ hdg).mpr z] at q6
                      exact absurd q6 (by decide)
                    repeat refine kX_one rfl ?_
                    refine kX_ialdV rfl rfl (by decide) (k) (by first | rfl | decide) (by omega) (hwk) ?_
                    repeat refine kX_one rfl ?_
                    refine kX_cal (mr_fits L xs d (va_up σ 273 W) n R C c (ws.getD k 0) (dig code k) (show mRo (va_up σ 273 W) n R from hR) (show mCl (va_up σ 273 W) R C from hC) hc hwk4 hdg) rfl (Or.inr rfl) rfl rfl rfl (fun r1 σ2 q1 => ?_)
                    obtain ⟨rfl, hσ9⟩ := q1
                    obtain rfl := hσ9
                    have hfit : mFit (va_up σ 273 W) c (ws.getD k 0) (dig code k) ↔ mFit σ c (ws.getD k 0) (dig code k) := Iff.rfl
                    repeat refine kX_one rfl ?_
                    refine kX_if (fun q7 => ?_) (fun q7 => ?_)
                    · have q7 := fun z => isB_ne.mpr (hfit.mpr z) (qeq q7)
                      exact no (fun z => q7 z.2.2) _ rfl rfl
                    · have q7 := hfit.mp (isB_ne.mp (qeqF q7))
                      iterate 2 (refine kX_one rfl ?_)
                      have := step True ⟨fun _ => ⟨q5, fun i hi e => q6' ⟨i, hi, e⟩, q7⟩, fun _ => trivial⟩ [(8, .int (nI (dig code k))), (7, .int (nI k)), (6, .int (nI tk)), (4, .int (isB (∀ i, i < k → mP1 σ c S ws code i))), (5, .int (nI code)), (3, .int (nI (4 ^ m))), (2, .int (nI m)), (0, .ref 232), (1, .int (nI c))] rfl rfl
                      rw [isB_T trivial] at this
                      exact this
  iterate 4 (refine kX_one rfl ?_)
  have loop := kX_while (T := kT) (L := L) (xs := xs) (d := d + 2) (mi := 188) (pc := 4) (Q := fun r σ' => r = some (.int (isB (¬ ∃ code, code < 4 ^ (wsL σ c S).length ∧ mOkc σ c S (wsL σ c S) code))) ∧ ∃ W, σ' = va_up σ 273 W)
    (fun q : Nat × (Nat → Int32) => [(3, .int (nI q.1)), (2, .int (nI (wsL σ c q.1).length)), (0, .ref 232), (1, .int (nI c))]) (fun q => va_up σ 273 q.2) (fun q => q.1 ≤ S ∧ lst q.2 (wsL σ c q.1)) (fun q => S - q.1) ?_ (0, σ 273) ⟨Nat.zero_le _, lst_nil _⟩
  · rw [kup_self] at loop
    exact loop
  · rintro ⟨s, W⟩ ⟨i1, i2⟩ ih
    dsimp only at i1 i2 ih ⊢
    iterate 3 (refine kX_one rfl ?_)
    refine kX_top (hS.1) ?_
    repeat refine kX_one rfl ?_
    refine kX_if (fun q => ?_) (fun q => ?_)
    · have q := qge q s S
      obtain rfl : s = S := by omega
      refine kX_lv _ rfl rfl rfl (codes W i2)
    · have q := qgeF q s S
      have hs4 : s < 4 := by omega
      have hwl := (wsL_le σ c s).1
      have no : ¬ mWt σ c s → kX kT L xs (d + 2) 188 65 [(3, .int (nI s)), (2, .int (nI (wsL σ c s).length)), (0, .ref 232), (1, .int (nI c))] [] (va_up σ 273 W) (fun r σ' => r = some (.int (isB (¬ ∃ code, code < 4 ^ (wsL σ c S).length ∧ mOkc σ c S (wsL σ c S) code))) ∧ ∃ W, σ' = va_up σ 273 W) := by
        intro hz
        iterate 2 (refine kX_one rfl ?_)
        have e : wsL σ c (s + 1) = wsL σ c s := by rw [wsL, cit_F hz]
        have := ih (s + 1, W) ⟨by simp only; omega, by simp only; rw [e]; exact i2⟩ (by simp only; omega)
        simp only at this
        rw [e, ← nI_1] at this
        exact this
      repeat refine kX_one rfl ?_
      refine kX_ialdN rfl rfl (by decide) (s) (by first | rfl | decide) (hs4) ?_
      repeat refine kX_one rfl ?_
      refine kX_ialdN rfl rfl (by decide) (c) (by first | rfl | decide) (by omega) ?_
      repeat refine kX_one rfl ?_
      refine kX_if (fun q2 => ?_) (fun q2 => ?_)
      · exact no (fun z => qne q2 z.1)
      · have q2 : σ 255 s = σ 258 c := qneF q2
        repeat refine kX_one rfl ?_
        refine kX_ialdN rfl rfl (by decide) (s) (by first | rfl | decide) (hs4) ?_
        repeat refine kX_one rfl ?_
        refine kX_ialdV (v := nI cb) rfl rfl (by decide) c rfl (by omega) c2 ?_
        refine kX_ialdN rfl rfl (by decide) (cb) (by first | rfl | decide) (by omega) ?_
        repeat refine kX_one rfl ?_
        refine kX_if (fun q3 => ?_) (fun q3 => ?_)
        · exact no (fun z => qne q3 (by have := z.2.1; rw [hfb] at this; exact this))
        · have q3 : σ 264 s = σ 247 cb := qneF q3
          repeat refine kX_one rfl ?_
          refine kX_cal (mr_isHonest L xs d (va_up σ 273 W) n b R s _ (show mTb (va_up σ 273 W) n b from h) (show mRo (va_up σ 273 W) n R from hR) hs4 (show mSn (va_up σ 273 W) n R s (fN (σ 264 s)) from hS.2 s q)) rfl (Or.inr rfl) rfl rfl rfl (fun r1 σ2 q1 => ?_)
          obtain ⟨rfl, hσ9⟩ := q1
          obtain rfl := hσ9
          have hho : mHo (va_up σ 273 W) s ↔ mHo σ s := Iff.rfl
          repeat refine kX_one rfl ?_
          refine kX_if (fun q4 => ?_) (fun q4 => ?_)
          · have q4 := fun z => isB_ne.mpr (hho.mpr z) (qeq q4)
            exact no (fun z => q4 z.2.2)
          · have q4 := hho.mp (isB_ne.mp (qeqF q4))
            have e : wsL σ c (s + 1) = wsL σ c s ++ [s] := by rw [wsL, cit_T ⟨q2, by rw [hfb]; exact q3, q4⟩]
            repeat refine kX_one rfl ?_
            refine kX_iastN rfl rfl (by decide) ((wsL σ c s).length) (by first | rfl | decide) (by omega) ?_
            iterate 3 (refine kX_one rfl ?_)
            rw [kup_up]
            have := ih (s + 1, upd W (wsL σ c s).length (nI s)) ⟨by simp only; omega, by simp only; rw [e]; exact lst_push i2 s⟩ (by simp only; omega)
            simp only at this
            rw [e, List.length_append, show (wsL σ c s).length + [s].length = (wsL σ c s).length + 1 from rfl, ← nI_1, ← nI_1] at this
            exact kX_lv _ rfl rfl rfl this
end
section
/-! the reference: isBroken -/
theorem mFr_want (σ : kS) (n : Nat) (f : Nat → Int32) : mFr σ (va_up σ 273 f) n := by
  refine ⟨fun c hc => ?_, fun j hj => rfl, fun u hu => ⟨rfl, rfl, rfl⟩⟩
  simp only [rowC, List.mem_cons, List.not_mem_nil, or_false, not_or] at hc
  simp [va_up, hc]
def mBk (σ : kS) (l : rwT) (c S : Nat) : Prop := (σ 257 c ≠ 0 ∧ ∃ s, s < S ∧ mLs σ l c s) ∨ (σ 257 c = 0 ∧ ¬ ∃ code, code < 4 ^ (wsL σ c S).length ∧ mOkc σ c S (wsL σ c S) code)
theorem mFr_Cl {σ τ : kS} {n R C : Nat} (hF : mFr σ τ n) (hC : mCl σ R C) : mCl τ R C := by
  unfold mCl
  rw [hF.1 258 (by decide), hF.1 259 (by decide), hF.1 257 (by decide), hF.1 244 (by decide), hF.1 260 (by decide), hF.1 261 (by decide), hF.1 262 (by decide), hF.1 263 (by decide)]
  exact ⟨hC.1, (hF.2.1 _ (by decide)).trans hC.2.1, hC.2.2⟩
set_option maxRecDepth 100000 in
set_option maxHeartbeats 4000000 in
theorem mr_isBroken (L : Nat) (xs : Nat → Int32) (d : Nat) (σ : kS) (n b R S C c : Nat) (l : rwT) (h : mTb σ n b) (hR : mRo σ n R) (hS4 : S ≤ 4) (hS : mSv σ n R S) (hC : mCl σ R C) (hc : c < C) (hq : mRq σ (mvG σ n b) l) (hj : mJd σ n b l) : kXM kT L xs (d + 6) 189 [.ref 232, .int (nI c)] σ (fun r σ' => r = some (.int (isB (mBk σ l c S))) ∧ mBd σ σ' n b l (rwM σ l) ∧ ∀ j, j ≠ 49 → j ≠ 50 → j ≠ 46 → σ' 232 j = σ 232 j) := by
  have hC6 := hC.1
  unfold kXM
  repeat refine kX_one rfl ?_
  refine kX_baldN rfl rfl (by decide) (c) (by first | rfl | decide) (by omega) ?_
  repeat refine kX_one rfl ?_
  refine kX_if (fun q => ?_) (fun q => ?_)
  · have q : σ 257 c = 0 := qeq q
    repeat refine kX_one rfl ?_
    refine kX_cal (mr_isApart L xs (d + 3) σ n b R S C c h hR hS4 hS hC hc) rfl (Or.inr rfl) rfl rfl rfl (fun r1 σ2 q1 => ?_)
    obtain ⟨rfl, W, rfl⟩ := q1
    refine kX_ret (i := .ireturn) (len := 1) rfl (Or.inr rfl) (jend_b rfl (isB_01 _)) (⟨?_, ⟨mFr_want σ n W, h, hq, hj, rfl⟩, fun _ _ _ _ => rfl⟩)
    exact congrArg (fun z => some (Value.int z)) (isB_iff ⟨fun z => Or.inr ⟨q, z⟩, fun z => z.elim (fun z => absurd q z.1) (fun z => z.2)⟩)
  · have q : σ 257 c ≠ 0 := qeqF q
    repeat refine kX_one rfl ?_
    refine kX_cal (mr_isLost L xs d σ n b R S C c l h hR hS4 hS hC hc q hq hj) rfl (Or.inr rfl) rfl rfl rfl (fun r1 σ2 q1 => ?_)
    obtain ⟨rfl, f1, f2, f3⟩ := q1
    iterate 1 (refine kX_one rfl ?_)
    refine kX_ret (i := .ireturn) (len := 1) rfl (Or.inr rfl) (jend_b rfl (isB_01 _)) (⟨?_, ⟨mFr_rwF f1, rwF_Tb f1 h, by rw [rwF_mvG f1]; exact f2, f3, ?_⟩, f1.2⟩)
    · exact congrArg (fun z => some (Value.int z)) (isB_iff ⟨fun z => Or.inl ⟨q, z⟩, fun z => z.elim (fun z => z.2) (fun z => absurd z.1 q)⟩)
    · obtain ⟨⟨_, _, _, _, _, _, rfl⟩, -⟩ := f1
      rfl
end
section
/-! the reference: bindsTo -/
theorem bm_or : ∀ m, m < 64 → ∀ o, o < 6 → nI m ||| (Int32.ofInt 1 <<< (nI o &&& 31)) = nI (orb m o) := by decide +kernel
theorem bm_lt : ∀ m, m < 64 → ∀ o, o < 6 → orb m o < 64 ∧ ∀ o', o' < 6 → (orb m o / 2 ^ o' % 2 = 1 ↔ o' = o ∨ m / 2 ^ o' % 2 = 1) := by decide +kernel
/-- the TERM t is that of the pattern p: what VARIABLES come to stand for -/
noncomputable def mtF (σ : kS) : Nat → Nat → Nat → (Nat → Int32) → Option (Nat → Int32)
  | 0, _, _, _ => none
  | f + 1, p, t, a => if tgd (σ 233) (σ 234) (σ 235) p = true then (if p = t then some a else none)
    else if σ 233 p = nI 3 then (if ¬ a (fN (σ 241 p)) < 0 then (if a (fN (σ 241 p)) = nI t then some a else none) else (if σ 240 p ≠ nI 3 ∧ σ 233 t ≠ σ 240 p then none else some (upd a (fN (σ 241 p)) (nI t))))
    else if σ 233 p ≠ σ 233 t then none
    else (mtF σ f (fN (σ 234 p)) (fN (σ 234 t)) a).bind (fun a' => if σ 235 p = -1 then some a' else mtF σ f (fN (σ 235 p)) (fN (σ 235 t)) a')
noncomputable def mtS (σ : kS) : List (Nat × Nat) → (Nat → Int32) → Option (Nat → Int32)
  | [], a => some a
  | q :: r, a => (mtF σ (q.1 + 1) q.1 q.2 a).bind (mtS σ r)
theorem mtF_fuel {σ : kS} {n b : Nat} (h : mTb σ n b) : ∀ (f g p t : Nat) (a : Nat → Int32), p < n → p < f → p < g → mtF σ f p t a = mtF σ g p t a := by
  intro f
  induction f with
  | zero => intro g p t a _ hh; omega
  | succ f ih =>
    intro g p t a hp h1 h2
    obtain ⟨g, rfl⟩ : ∃ g', g = g' + 1 := ⟨g - 1, by omega⟩
    have hn := h.1
    unfold mtF
    rcases (mTb_num h p hp).2 with ⟨k, h3, hk, -, -⟩ | ⟨k, x, y, h3, hk, hx, hy, h4, h5, h6, h7⟩ | ⟨k, x, h3, hk, hx, hy, h4, h6⟩
    · by_cases hg : tgd (σ 233) (σ 234) (σ 235) p = true
      · rw [if_pos hg, if_pos hg]
      · have h3' : σ 233 p = nI 3 := by
          rw [tgd_0 hk h3] at hg
          rw [hk]
          by_cases e : k = 3
          · rw [e]
          · exact absurd (decide_eq_true e) hg
        rw [if_neg hg, if_neg hg, if_pos h3', if_pos h3']
    · rw [hx, hy, fN_nI (show x < 2147483648 by omega), fN_nI (show y < 2147483648 by omega)]
      have e1 : ∀ t a, mtF σ f x t a = mtF σ g x t a := fun t a => ih g x t a h6 (by omega) (by omega)
      have e2 : ∀ t a, mtF σ f y t a = mtF σ g y t a := fun t a => ih g y t a h7 (by omega) (by omega)
      simp only [e1, e2]
    · rw [hx, fN_nI (show x < 2147483648 by omega), hy]
      have e1 : ∀ t a, mtF σ f x t a = mtF σ g x t a := fun t a => ih g x t a h6 (by omega) (by omega)
      simp only [e1, if_pos]
/-- contents of bindsTo -/
def bdS (σ : kS) (W X A : Nat → Int32) : kS := va_up (va_up (va_up σ 252 W) 277 X) 278 A
theorem lst2_pop {W : Nat → Int32} {l : List (Nat × Nat)} {q : Nat × Nat} {f : Nat × Nat → Nat} (h : lst W ((l ++ [q]).map f)) : W l.length = nI (f q) ∧ lst W (l.map f) := by
  rw [List.map_append] at h
  have := lst_pop h
  rw [List.length_map] at this
  exact this
theorem lst2_push {W : Nat → Int32} {l : List (Nat × Nat)} {f : Nat × Nat → Nat} (h : lst W (l.map f)) (q : Nat × Nat) : lst (upd W l.length (nI (f q))) ((l ++ [q]).map f) := by
  have := lst_push h (f q)
  rw [List.length_map] at this
  rw [List.map_append]
  exact this
theorem snoc2 (l : List (Nat × Nat)) : l = [] ∨ ∃ l0 x, l = l0 ++ [x] := by
  induction l with
  | nil => exact Or.inl rfl
  | cons a l ih =>
    rcases ih with rfl | ⟨l0, x, rfl⟩
    · exact Or.inr ⟨[], a, rfl⟩
    · exact Or.inr ⟨a :: l0, x, rfl⟩
/-- what bindsTo answers: the VARIABLES that came to stand for something, or -1 -/
def mBnd (a0 : Nat → Int32) (res : Option (Nat → Int32)) (r : Option Value) (A : Nat → Int32) : Prop := match res with
  | none => r = some (.int (-1))
  | some a => ∃ m, m < 64 ∧ r = some (.int (nI m)) ∧ (∀ k, k < 6 → A k = a k) ∧ ∀ k, k < 6 → (m / 2 ^ k % 2 = 1 ↔ a0 k < 0 ∧ ¬ a k < 0)
set_option maxRecDepth 100000 in
set_option maxHeartbeats 4000000 in
theorem mr_bindsTo (L : Nat) (xs : Nat → Int32) (d : Nat) (σ : kS) (n b R s p0 t0 : Nat) (h : mTb σ n b) (hR : mRo σ n R) (hs : s < 4) (hp0 : p0 < n) (ht0 : t0 < n) (hg0 : tgd (σ 233) (σ 234) (σ 235) t0 = true) :
    kXM kT L xs (d + 1) 196 [.ref 232, .int (nI s), .int (nI p0), .int (nI t0)] σ (fun r σ' => ∃ W X A, σ' = bdS σ W X A ∧ mBnd (fun k => σ 265 (6 * s + k)) (mtF σ (p0 + 1) p0 t0 (fun k => σ 265 (6 * s + k))) r A) := by
  have hn := h.1
  have hV := mTb_num h
  have hVm := h.2.2.2.2.2.1.1
  have hG := h.2.2.2.2.2.2.1
  have hsz := h.2.2.2.2.2.2.2.2.2
  have hR4 := hR.1
  have hpos : ∀ x, x < n → 1 ≤ tsz (σ 233) (σ 234) (σ 235) x := fun x hx => tsz_pos hV hx
  unfold kXM
  iterate 2 (refine kX_one rfl ?_)
  have loopA := kX_while (T := kT) (L := L) (xs := xs) (d := d + 1) (mi := 196) (pc := 3) (Q := fun r σ' => ∃ W X A, σ' = bdS σ W X A ∧ mBnd (fun k => σ 265 (6 * s + k)) (mtF σ (p0 + 1) p0 t0 (fun k => σ 265 (6 * s + k))) r A)
    (fun q : Nat × (Nat → Int32) => [(4, .int (nI q.1)), (0, .ref 232), (1, .int (nI s)), (2, .int (nI p0)), (3, .int (nI t0))]) (fun q => va_up σ 278 q.2) (fun q => q.1 ≤ 6 ∧ ∀ k, k < q.1 → q.2 k = σ 265 (6 * s + k)) (fun q => 6 - q.1) ?_ (0, σ 278) ⟨Nat.zero_le _, fun u hu => absurd hu (Nat.not_lt_zero u)⟩
  · rw [kup_self] at loopA
    exact loopA
  · rintro ⟨i, A⟩ ⟨i1, i2⟩ ih
    dsimp only at i1 i2 ih ⊢
    repeat refine kX_one rfl ?_
    refine kX_if (fun q => ?_) (fun q => ?_)
    · have q := qge q i 6
      obtain rfl : i = 6 := by omega
      iterate 8 (refine kX_one rfl ?_)
      refine kX_iastN rfl rfl (by decide) (0) (by first | rfl | decide) (by decide) ?_
      iterate 4 (refine kX_one rfl ?_)
      refine kX_iastN rfl rfl (by decide) (0) (by first | rfl | decide) (by decide) ?_
      have loopB := kX_while (T := kT) (L := L) (xs := xs) (d := d + 1) (mi := 196) (pc := 55) (Q := fun r σ' => ∃ W X A, σ' = bdS σ W X A ∧ mBnd (fun k => σ 265 (6 * s + k)) (mtF σ (p0 + 1) p0 t0 (fun k => σ 265 (6 * s + k))) r A)
        (fun q : List (Nat × Nat) × (Nat → Int32) × Nat × (Nat → Int32) × (Nat → Int32) × (Nat → Int32) => [(5, .int (nI q.1.length)), (4, .int (nI q.2.2.1)), (0, .ref 232), (1, .int (nI s)), (2, .int (nI p0)), (3, .int (nI t0))])
        (fun q => bdS σ q.2.2.2.1 q.2.2.2.2.1 q.2.2.2.2.2)
        (fun q => lst q.2.2.2.1 (q.1.map (fun z => z.1)) ∧ lst q.2.2.2.2.1 (q.1.map (fun z => z.2)) ∧ (∀ z ∈ q.1, z.1 < n ∧ z.2 < n ∧ tgd (σ 233) (σ 234) (σ 235) z.2 = true) ∧ (q.1.map (fun z => tsz (σ 233) (σ 234) (σ 235) z.1)).sum ≤ 24 ∧ q.2.2.1 < 64 ∧ (∀ k, k < 6 → q.2.2.2.2.2 k = q.2.1 k) ∧ (∀ k, k < 6 → (q.2.2.1 / 2 ^ k % 2 = 1 ↔ σ 265 (6 * s + k) < 0 ∧ ¬ q.2.1 k < 0)) ∧ mtS σ q.1.reverse q.2.1 = mtF σ (p0 + 1) p0 t0 (fun k => σ 265 (6 * s + k)) ∧ ∀ k, k < 6 → ¬ σ 265 (6 * s + k) < 0 → q.2.1 k = σ 265 (6 * s + k))
        (fun q => (q.1.map (fun z => tsz (σ 233) (σ 234) (σ 235) z.1)).sum) ?_ ([(p0, t0)], (fun k => σ 265 (6 * s + k)), 0, upd (σ 252) 0 (nI p0), upd (σ 277) 0 (nI t0), A) ⟨lst2_push (l := []) (f := fun z => z.1) (lst_nil _) (p0, t0), lst2_push (l := []) (f := fun z => z.2) (lst_nil _) (p0, t0), fun z hz => by rw [List.mem_singleton] at hz; subst hz; exact ⟨hp0, ht0, hg0⟩, by simpa using hsz p0 hp0, by simp, i2, fun k hk => by
            simp only
            rw [Nat.zero_div]
            exact ⟨fun z => absurd z (by decide), fun z => absurd z.1 z.2⟩, by
            show (mtF σ (p0 + 1) p0 t0 (fun k => σ 265 (6 * s + k))).bind (mtS σ []) = _
            cases mtF σ (p0 + 1) p0 t0 (fun k => σ 265 (6 * s + k)) <;> rfl, fun _ _ _ => rfl⟩
      · refine kX_to _ _ rfl rfl rfl ?_ loopB
        funext c; unfold bdS; first
          | ((repeat (refine va_case ?_ ?_; (· (intro h; first | (subst h; rfl) | (unfold va_up; repeat' split; (all_goals first | rfl | omega | (subst_vars; rfl) | (funext j; unfold upd; repeat' split; all_goals first | rfl | omega | (subst_vars; rfl)))))); intro h)); (repeat (refine va_case2 ?_ ?_; (· (intro h; first | exact absurd h (by assumption) | (subst h; rfl) | (subst h; funext j; unfold upd; repeat' split; (all_goals first | rfl | omega | (subst_vars; rfl))))); intro h)); rfl)
          | (unfold va_up; repeat' split
             all_goals first | rfl | omega | (subst_vars; rfl) | (funext j; unfold upd; repeat' split; all_goals first | rfl | omega | (subst_vars; rfl)))
      · rintro ⟨l, a, m, W, X, A⟩ ⟨j1, j2, j3, j4, j5, j6, j7, j8, j9⟩ ih2
        dsimp only at j1 j2 j3 j4 j5 j6 j7 j8 j9 ih2 ⊢
        rcases snoc2 l with rfl | ⟨l0, ⟨p, t⟩, rfl⟩
        · repeat refine kX_one rfl ?_
          refine kX_ret (i := .ireturn) (len := 1) rfl (Or.inr rfl) rfl ⟨W, X, A, rfl, ?_⟩
          rw [← j8]
          exact ⟨m, j5, rfl, j6, j7⟩
        · obtain ⟨hp, ht, hgt⟩ := j3 (p, t) (by simp)
          have j3' : ∀ z ∈ l0, z.1 < n ∧ z.2 < n ∧ tgd (σ 233) (σ 234) (σ 235) z.2 = true := fun z hz => j3 z (by simp [hz])
          obtain ⟨w1, w2⟩ := lst2_pop j1
          obtain ⟨x1, x2⟩ := lst2_pop j2
          have hsum : ((l0 ++ [(p, t)]).map (fun z => tsz (σ 233) (σ 234) (σ 235) z.1)).sum = (l0.map (fun z => tsz (σ 233) (σ 234) (σ 235) z.1)).sum + tsz (σ 233) (σ 234) (σ 235) p := by simp
          rw [hsum] at j4 ih2
          have hpp := hpos p hp
          have hl0 : l0.length ≤ (l0.map (fun z => tsz (σ 233) (σ 234) (σ 235) z.1)).sum := by
            have := sum_len (f := tsz (σ 233) (σ 234) (σ 235)) (l0.map (fun z => z.1)) (fun x hx => by
              obtain ⟨z, hz, rfl⟩ := List.mem_map.mp hx
              exact hpos z.1 (j3' z hz).1)
            rw [List.length_map, List.map_map] at this
            exact this
          have e8 : mtS σ (l0 ++ [(p, t)]).reverse a = (mtF σ (p + 1) p t a).bind (mtS σ l0.reverse) := by
            rw [List.reverse_append]
            rfl
          rw [e8] at j8
          rw [show nI (l0 ++ [(p, t)]).length = nI (l0.length + 1) by simp]
          have fail : mtF σ (p + 1) p t a = none → ∀ pc lv, kX kT L xs (d + 1) 196 pc lv [.int (-1)] (bdS σ W X A) (fun r σ' => r = some (.int (-1)) ∧ σ' = bdS σ W X A) → kX kT L xs (d + 1) 196 pc lv [.int (-1)] (bdS σ W X A) (fun r σ' => ∃ W X A, σ' = bdS σ W X A ∧ mBnd (fun k => σ 265 (6 * s + k)) (mtF σ (p0 + 1) p0 t0 (fun k => σ 265 (6 * s + k))) r A) := by
            intro hf pc lv hk
            refine kX_post hk ?_
            rintro r σ' ⟨rfl, rfl⟩
            refine ⟨W, X, A, rfl, ?_⟩
            rw [← j8, hf]
            rfl
          have back : ∀ (l' : List (Nat × Nat)) (a' : Nat → Int32) (m' : Nat) (W' X' A' : Nat → Int32) (τ : kS), τ = bdS σ W' X' A' → lst W' (l'.map (fun z => z.1)) → lst X' (l'.map (fun z => z.2)) → (∀ z ∈ l', z.1 < n ∧ z.2 < n ∧ tgd (σ 233) (σ 234) (σ 235) z.2 = true) → (l'.map (fun z => tsz (σ 233) (σ 234) (σ 235) z.1)).sum < (l0.map (fun z => tsz (σ 233) (σ 234) (σ 235) z.1)).sum + tsz (σ 233) (σ 234) (σ 235) p → m' < 64 → (∀ k, k < 6 → A' k = a' k) → (∀ k, k < 6 → (m' / 2 ^ k % 2 = 1 ↔ σ 265 (6 * s + k) < 0 ∧ ¬ a' k < 0)) → mtS σ l'.reverse a' = mtF σ (p0 + 1) p0 t0 (fun k => σ 265 (6 * s + k)) → (∀ k, k < 6 → ¬ σ 265 (6 * s + k) < 0 → a' k = σ 265 (6 * s + k)) →
              ∀ lv, nk lv = true → ([(5, Value.int (nI l'.length)), (4, .int (nI m')), (0, .ref 232), (1, .int (nI s)), (2, .int (nI p0)), (3, .int (nI t0))] : jL).map (fun q => jl lv q.1) = ([(5, Value.int (nI l'.length)), (4, .int (nI m')), (0, .ref 232), (1, .int (nI s)), (2, .int (nI p0)), (3, .int (nI t0))] : jL).map (fun q => some q.2) → kX kT L xs (d + 1) 196 302 lv [] τ (fun r σ' => ∃ W X A, σ' = bdS σ W X A ∧ mBnd (fun k => σ 265 (6 * s + k)) (mtF σ (p0 + 1) p0 t0 (fun k => σ 265 (6 * s + k))) r A) := by
            intro l' a' m' W' X' A' τ e g1 g2 g3 g4 g5 g6 g7 g8 g9 lv hk hlv
            refine kX_lv _ hk rfl hlv ?_
            rw [e]
            iterate 1 (refine kX_one rfl ?_)
            exact ih2 (l', a', m', W', X', A') ⟨g1, g2, g3, by simp only; omega, g5, g6, g7, g8, g9⟩ g4
          repeat refine kX_one rfl ?_
          refine kX_ifF (decide_eq_false (nI_nle (by omega) (by omega))) ?_
          iterate 4 (refine kX_one rfl ?_)
          refine kX_ialdV (v := nI p) rfl rfl (by decide) l0.length (pk_m1 _) (by omega) w1 ?_
          iterate 4 (refine kX_one rfl ?_)
          refine kX_ialdV (v := nI t) rfl rfl (by decide) l0.length (pk_m1 _) (by omega) x1 ?_
          iterate 4 (refine kX_one rfl ?_)
          refine kX_baldV rfl rfl (by decide) (p) (by first | rfl | decide) (by omega) (hG p (Or.inl hp)) ?_
          have hlocal : nI (l0.length + 1) + Int32.ofInt (-1) = nI l0.length := pk_m1 _
          repeat refine kX_one rfl ?_
          refine kX_if (fun q2 => ?_) (fun q2 => ?_)
          · have q2 := (bI_eq _).mp (qeq q2)
            have q2' : ¬ tgd (σ 233) (σ 234) (σ 235) p = true := by rw [q2]; decide
            repeat refine kX_one rfl ?_
            refine kX_ialdN rfl rfl (by decide) (p) (by first | rfl | decide) (by omega) ?_
            repeat refine kX_one rfl ?_
            refine kX_if (fun q3 => ?_) (fun q3 => ?_)
            · have q3 : σ 233 p ≠ nI 3 := qne q3
              repeat refine kX_one rfl ?_
              refine kX_ialdN rfl rfl (by decide) (p) (by first | rfl | decide) (by omega) ?_
              repeat refine kX_one rfl ?_
              refine kX_ialdN rfl rfl (by decide) (t) (by first | rfl | decide) (by omega) ?_
              repeat refine kX_one rfl ?_
              refine kX_if (fun q4 => ?_) (fun q4 => ?_)
              · have q4 : σ 233 p = σ 233 t := qeq q4
                have emt : ∀ (x z : Nat) (a : Nat → Int32), σ 234 p = nI x → x < 1000 → σ 234 t = nI z → z < 1000 → mtF σ (p + 1) p t a = (mtF σ p x z a).bind (fun a' => if σ 235 p = -1 then some a' else mtF σ p (fN (σ 235 p)) (fN (σ 235 t)) a') := fun x z a e1 e2 e3 e4 => by
                  rw [mtF, if_neg q2', if_neg q3, if_neg (fun hh => hh q4), e1, e3, fN_nI (by omega), fN_nI (by omega)]
                rcases (hV p hp).2 with ⟨k, h3, hk, -, -⟩ | ⟨k, x, y, h3, hk, hx, hy, h4, h5, h6, h7⟩ | ⟨k, x, h3, hk, hx, hy, h4, h6⟩
                · exfalso
                  rw [tgd_0 hk h3] at q2
                  exact q3 (by rw [hk, Decidable.of_not_not (of_decide_eq_false q2)])
                · obtain ⟨zx, zy, hzx, hzy, hz4, hz5, hz6, hz7, hgz⟩ : ∃ zx zy, σ 234 t = nI zx ∧ σ 235 t = nI zy ∧ zx < t ∧ zy < t ∧ zx < n ∧ zy < n ∧ (tgd (σ 233) (σ 234) (σ 235) zx = true ∧ tgd (σ 233) (σ 234) (σ 235) zy = true) := by
                    rcases (hV t ht).2 with ⟨k', h3', hk', -, -⟩ | ⟨k', x', y', h3', hk', hx', hy', h4', h5', h6', h7'⟩ | ⟨k', x', h3', hk', hx', hy', h4', h6'⟩
                    · have := nI_inj (hk.symm.trans (q4.trans hk'))
                      omega
                    · refine ⟨x', y', hx', hy', h4', h5', h6', h7', ?_⟩
                      rw [tgd_2 hV hk' hx' hy' (by omega) (by omega) h4' h5' h6' h7', Bool.and_eq_true] at hgt
                      exact hgt
                    · have := nI_inj (hk.symm.trans (q4.trans hk'))
                      omega
                  have e7 : tsz (σ 233) (σ 234) (σ 235) p = 1 + tsz (σ 233) (σ 234) (σ 235) x + tsz (σ 233) (σ 234) (σ 235) y := tA_2 hV hk hx hy (by omega) (by omega) h4 h5 h6 h7
                  repeat refine kX_one rfl ?_
                  refine kX_ialdV rfl rfl (by decide) (p) (by first | rfl | decide) (by omega) (hy) ?_
                  repeat refine kX_one rfl ?_
                  refine kX_ifF (decide_eq_false (nI_pos (by omega))) ?_
                  repeat refine kX_one rfl ?_
                  refine kX_ialdV rfl rfl (by decide) (p) (by first | rfl | decide) (by omega) (hy) ?_
                  refine kX_iastN rfl rfl (by decide) (l0.length) (hlocal) (by omega) ?_
                  repeat refine kX_one rfl ?_
                  refine kX_ialdV rfl rfl (by decide) (t) (by first | rfl | decide) (by omega) (hzy) ?_
                  refine kX_iastN rfl rfl (by decide) (l0.length) (hlocal) (by omega) ?_
                  repeat refine kX_one rfl ?_
                  refine kX_ialdV rfl rfl (by decide) (p) (by first | rfl | decide) (by omega) (hx) ?_
                  refine kX_iastN rfl rfl (by decide) (l0.length + 1) (by rw [hlocal]; exact nI_1 _) (by omega) ?_
                  repeat refine kX_one rfl ?_
                  refine kX_ialdV rfl rfl (by decide) (t) (by first | rfl | decide) (by omega) (hzx) ?_
                  refine kX_iastN rfl rfl (by decide) (l0.length + 1) (by rw [hlocal]; exact nI_1 _) (by omega) ?_
                  iterate 1 (refine kX_one rfl ?_)
                  refine back (l0 ++ [(y, zy)] ++ [(x, zx)]) a m (upd (upd W l0.length (nI y)) (l0 ++ [(y, zy)]).length (nI x)) (upd (upd X l0.length (nI zy)) (l0 ++ [(y, zy)]).length (nI zx)) A _ ?_ (lst2_push (lst2_push w2 (y, zy)) (x, zx)) (lst2_push (lst2_push x2 (y, zy)) (x, zx)) ?_ ?_ j5 j6 j7 ?_ j9 _ rfl ?_
                  · rw [show (l0 ++ [(y, zy)]).length = l0.length + 1 by simp]
                    funext c; unfold bdS; first
                      | ((repeat (refine va_case ?_ ?_; (· (intro h; first | (subst h; rfl) | (unfold va_up; repeat' split; (all_goals first | rfl | omega | (subst_vars; rfl) | (funext j; unfold upd; repeat' split; all_goals first | rfl | omega | (subst_vars; rfl)))))); intro h)); (repeat (refine va_case2 ?_ ?_; (· (intro h; first | exact absurd h (by assumption) | (subst h; rfl) | (subst h; funext j; unfold upd; repeat' split; (all_goals first | rfl | omega | (subst_vars; rfl))))); intro h)); rfl)
                      | (unfold va_up; repeat' split
                         all_goals first | rfl | omega | (subst_vars; rfl) | (funext j; unfold upd; repeat' split; all_goals first | rfl | omega | (subst_vars; rfl)))
                  · intro z hz
                    simp only [List.mem_append, List.mem_singleton] at hz
                    rcases hz with (hz | rfl) | rfl
                    · exact j3' z hz
                    · exact ⟨h7, hz7, hgz.2⟩
                    · exact ⟨h6, hz6, hgz.1⟩
                  · simp only [List.map_append, List.sum_append, List.map_cons, List.map_nil, List.sum_cons, List.sum_nil]
                    omega
                  · have hy1 : nI y ≠ -1 := nI_m1 (by omega)
                    rw [← j8, emt x zx a hx (by omega) hzx (by omega)]
                    simp only [hy, hzy, if_neg hy1, fN_nI (show y < 2147483648 by omega), fN_nI (show zy < 2147483648 by omega)]
                    rw [show (l0 ++ [(y, zy)] ++ [(x, zx)]).reverse = (x, zx) :: (y, zy) :: l0.reverse by simp]
                    show (mtF σ (x + 1) x zx a).bind (fun a' => (mtF σ (y + 1) y zy a').bind (mtS σ l0.reverse)) = _
                    rw [mtF_fuel h (x + 1) p x zx a h6 (by omega) (by omega)]
                    have e2 : ∀ a', mtF σ (y + 1) y zy a' = mtF σ p y zy a' := fun a' => mtF_fuel h (y + 1) p y zy a' h7 (by omega) (by omega)
                    simp only [e2]
                    cases mtF σ p x zx a <;> rfl
                  · rw [show nI (l0 ++ [(y, zy)] ++ [(x, zx)]).length = nI (l0.length + 1) + Int32.ofInt (-1) + 1 + 1 by rw [hlocal, nI_1, nI_1]; simp]
                    rfl
                · obtain ⟨zx, hzx, hz4, hz6, hgz⟩ : ∃ zx, σ 234 t = nI zx ∧ zx < t ∧ zx < n ∧ tgd (σ 233) (σ 234) (σ 235) zx = true := by
                    rcases (hV t ht).2 with ⟨k', h3', hk', -, -⟩ | ⟨k', x', y', h3', hk', hx', hy', h4', h5', h6', h7'⟩ | ⟨k', x', h3', hk', hx', hy', h4', h6'⟩
                    · have := nI_inj (hk.symm.trans (q4.trans hk'))
                      omega
                    · have := nI_inj (hk.symm.trans (q4.trans hk'))
                      omega
                    · refine ⟨x', hx', h4', h6', ?_⟩
                      rw [tgd_1 hV hk' hx' hy' (by omega) (by omega) h4' h6'] at hgt
                      exact hgt
                  have e7 : tsz (σ 233) (σ 234) (σ 235) p = 1 + tsz (σ 233) (σ 234) (σ 235) x := tA_1 hV hk hx hy (by omega) (by omega) h4 h6
                  repeat refine kX_one rfl ?_
                  refine kX_ialdV rfl rfl (by decide) (p) (by first | rfl | decide) (by omega) (hy) ?_
                  repeat refine kX_one rfl ?_
                  refine kX_ialdV rfl rfl (by decide) (p) (by first | rfl | decide) (by omega) (hx) ?_
                  refine kX_iastN rfl rfl (by decide) (l0.length) (hlocal) (by omega) ?_
                  repeat refine kX_one rfl ?_
                  refine kX_ialdV rfl rfl (by decide) (t) (by first | rfl | decide) (by omega) (hzx) ?_
                  refine kX_iastN rfl rfl (by decide) (l0.length) (hlocal) (by omega) ?_
                  iterate 1 (refine kX_one rfl ?_)
                  refine back (l0 ++ [(x, zx)]) a m (upd W l0.length (nI x)) (upd X l0.length (nI zx)) A _ ?_ (lst2_push w2 (x, zx)) (lst2_push x2 (x, zx)) ?_ ?_ j5 j6 j7 ?_ j9 _ rfl ?_
                  · funext c; unfold bdS; first
                      | ((repeat (refine va_case ?_ ?_; (· (intro h; first | (subst h; rfl) | (unfold va_up; repeat' split; (all_goals first | rfl | omega | (subst_vars; rfl) | (funext j; unfold upd; repeat' split; all_goals first | rfl | omega | (subst_vars; rfl)))))); intro h)); (repeat (refine va_case2 ?_ ?_; (· (intro h; first | exact absurd h (by assumption) | (subst h; rfl) | (subst h; funext j; unfold upd; repeat' split; (all_goals first | rfl | omega | (subst_vars; rfl))))); intro h)); rfl)
                      | (unfold va_up; repeat' split
                         all_goals first | rfl | omega | (subst_vars; rfl) | (funext j; unfold upd; repeat' split; all_goals first | rfl | omega | (subst_vars; rfl)))
                  · intro z hz
                    simp only [List.mem_append, List.mem_singleton] at hz
                    rcases hz with hz | rfl
                    · exact j3' z hz
                    · exact ⟨h6, hz6, hgz⟩
                  · simp only [List.map_append, List.sum_append, List.map_cons, List.map_nil, List.sum_cons, List.sum_nil]
                    omega
                  · rw [← j8, emt x zx a hx (by omega) hzx (by omega), hy]
                    rw [show (l0 ++ [(x, zx)]).reverse = (x, zx) :: l0.reverse by simp]
                    show (mtF σ (x + 1) x zx a).bind (mtS σ l0.reverse) = _
                    rw [mtF_fuel h (x + 1) p x zx a h6 (by omega) (by omega)]
                    cases mtF σ p x zx a <;> rfl
                  · rw [show nI (l0 ++ [(x, zx)]).length = nI (l0.length + 1) + Int32.ofInt (-1) + 1 by rw [hlocal, nI_1]; simp]
                    rfl
              · have q4 : σ 233 p ≠ σ 233 t := qeqF q4
                iterate 1 (refine kX_one rfl ?_)
                refine fail (by rw [mtF, if_neg q2', if_neg q3, if_pos q4]) _ _ ?_
                refine kX_ret (i := .ireturn) (len := 1) rfl (Or.inr rfl) rfl (⟨rfl, rfl⟩)
            · have q3 : σ 233 p = nI 3 := qneF q3
              obtain ⟨r, k, r1, k1, kv⟩ := hR.2.2.2.2.1 p hp q3
              obtain ⟨t', so, as, a1, a2, a3, a4, a5, a6, a7, -⟩ := hR.2.2.2.1 r k r1 k1
              have hpt : p = t' := nI_inj (kv.symm.trans a2)
              subst hpt
              obtain ⟨⟨v, hv6, hv⟩, -⟩ := hR.2.2.1 r r1
              have hk6 : k < 6 := by rw [hv, fN_nI (by omega)] at k1; omega
              have hfk : fN (σ 241 p) = k := by rw [a5]; exact fN_nI (by omega)
              repeat refine kX_one rfl ?_
              refine kX_ialdV rfl rfl (by decide) (p) (by first | rfl | decide) (by omega) (a5) ?_
              repeat refine kX_one rfl ?_
              refine kX_ialdV (v := a k) rfl rfl (by decide) k rfl hk6 (j6 k hk6) ?_
              /- it stands for t from here on -/
              have bind : ∀ (hok : mtF σ (p + 1) p t a = some (upd a k (nI t))) (m' : Nat), m' < 64 → (∀ k', k' < 6 → (m' / 2 ^ k' % 2 = 1 ↔ σ 265 (6 * s + k') < 0 ∧ ¬ upd a k (nI t) k' < 0)) → (∀ k', k' < 6 → ¬ σ 265 (6 * s + k') < 0 → upd a k (nI t) k' = σ 265 (6 * s + k')) → ∀ lv, nk lv = true → ([(8, Value.int (nI k)), (7, .int (nI t)), (5, .int (nI l0.length)), (4, .int (nI m')), (0, .ref 232), (1, .int (nI s)), (2, .int (nI p0)), (3, .int (nI t0))] : jL).map (fun q => jl lv q.1) = ([(8, Value.int (nI k)), (7, .int (nI t)), (5, .int (nI l0.length)), (4, .int (nI m')), (0, .ref 232), (1, .int (nI s)), (2, .int (nI p0)), (3, .int (nI t0))] : jL).map (fun q => some q.2) → kX kT L xs (d + 1) 196 199 lv [] (bdS σ W X A) (fun r σ' => ∃ W X A, σ' = bdS σ W X A ∧ mBnd (fun k => σ 265 (6 * s + k)) (mtF σ (p0 + 1) p0 t0 (fun k => σ 265 (6 * s + k))) r A) := by
                intro hok m' g1 g2 g9 lv hk' hlv
                refine kX_lv _ hk' rfl hlv ?_
                repeat refine kX_one rfl ?_
                refine kX_iastN rfl rfl (by decide) (k) (by first | rfl | decide) (hk6) ?_
                iterate 1 (refine kX_one rfl ?_)
                refine back l0 (upd a k (nI t)) m' W X (upd A k (nI t)) _ ?_ w2 x2 j3' (by omega) g1 (fun k' hk2 => ?_) g2 ?_ g9 _ rfl rfl
                · funext c; unfold bdS; first
                    | ((repeat (refine va_case ?_ ?_; (· (intro h; first | (subst h; rfl) | (unfold va_up; repeat' split; (all_goals first | rfl | omega | (subst_vars; rfl) | (funext j; unfold upd; repeat' split; all_goals first | rfl | omega | (subst_vars; rfl)))))); intro h)); (repeat (refine va_case2 ?_ ?_; (· (intro h; first | exact absurd h (by assumption) | (subst h; rfl) | (subst h; funext j; unfold upd; repeat' split; (all_goals first | rfl | omega | (subst_vars; rfl))))); intro h)); rfl)
                    | (unfold va_up; repeat' split
                       all_goals first | rfl | omega | (subst_vars; rfl) | (funext j; unfold upd; repeat' split; all_goals first | rfl | omega | (subst_vars; rfl)))
                · by_cases e : k' = k
                  · subst e
                    rw [pk_us, pk_us]
                  · rw [pk_un e, pk_un e]
                    exact j6 k' hk2
                · rw [← j8, hok]
                  rfl
              have hlv2 : ([(8, Value.int (nI k)), (7, .int (nI t)), (5, .int (nI l0.length)), (4, .int (nI m)), (0, .ref 232), (1, .int (nI s)), (2, .int (nI p0)), (3, .int (nI t0))] : jL) = [(8, Value.int (nI k)), (7, .int (nI t)), (5, .int (nI (l0.length + 1) + Int32.ofInt (-1))), (4, .int (nI m)), (0, .ref 232), (1, .int (nI s)), (2, .int (nI p0)), (3, .int (nI t0))] := by rw [hlocal]
              repeat refine kX_one rfl ?_
              refine kX_if (fun q4 => ?_) (fun q4 => ?_)
              · have q4 : a k < 0 := of_decide_eq_true q4
                /- it stood for nothing -/
                have free : ¬ (σ 240 p ≠ nI 3 ∧ σ 233 t ≠ σ 240 p) → ∀ lv, nk lv = true → ([(8, Value.int (nI k)), (7, .int (nI t)), (5, .int (nI l0.length)), (4, .int (nI m)), (0, .ref 232), (1, .int (nI s)), (2, .int (nI p0)), (3, .int (nI t0))] : jL).map (fun q => jl lv q.1) = ([(8, Value.int (nI k)), (7, .int (nI t)), (5, .int (nI l0.length)), (4, .int (nI m)), (0, .ref 232), (1, .int (nI s)), (2, .int (nI p0)), (3, .int (nI t0))] : jL).map (fun q => some q.2) → kX kT L xs (d + 1) 196 175 lv [] (bdS σ W X A) (fun r σ' => ∃ W X A, σ' = bdS σ W X A ∧ mBnd (fun k => σ 265 (6 * s + k)) (mtF σ (p0 + 1) p0 t0 (fun k => σ 265 (6 * s + k))) r A) := by
                  intro hok lv hk' hlv
                  refine kX_lv _ hk' rfl hlv ?_
                  obtain ⟨o1, o2⟩ := bm_lt m j5 k hk6
                  repeat refine kX_one rfl ?_
                  refine kX_ialdV (v := a k) rfl rfl (by decide) k rfl hk6 (j6 k hk6) ?_
                  repeat refine kX_one rfl ?_
                  refine kX_ifT (decide_eq_true q4) ?_
                  iterate 5 (refine kX_one rfl ?_)
                  refine kX_top (bm_or m j5 k hk6) ?_
                  iterate 1 (refine kX_one rfl ?_)
                  have hk0 : σ 265 (6 * s + k) < 0 := Classical.byContradiction (fun hnn => absurd q4 (by rw [j9 k hk6 hnn]; exact hnn))
                  refine bind ?_ (orb m k) o1 (fun k' hk2 => ?_) (fun k' hk2 hnn => ?_) _ rfl rfl
                  · rw [mtF, if_neg q2', if_pos q3, hfk, if_neg (fun hh => hh q4), if_neg hok]
                  · rw [o2 k' hk2, j7 k' hk2]
                    by_cases e : k' = k
                    · subst e
                      rw [pk_us]
                      exact ⟨fun _ => ⟨hk0, nI_pos (by omega)⟩, fun _ => Or.inl rfl⟩
                    · rw [pk_un e]
                      exact ⟨fun z => z.elim (fun z => absurd z e) id, Or.inr⟩
                  · by_cases e : k' = k
                    · subst e
                      exact absurd hk0 hnn
                    · rw [pk_un e]
                      exact j9 k' hk2 hnn
                repeat refine kX_one rfl ?_
                refine kX_ialdN rfl rfl (by decide) (p) (by first | rfl | decide) (by omega) ?_
                repeat refine kX_one rfl ?_
                refine kX_if (fun q5 => ?_) (fun q5 => ?_)
                · have q5 : σ 240 p = nI 3 := qeq q5
                  refine free (fun z => z.1 q5) _ rfl ?_
                  rw [hlv2]
                  rfl
                · have q5 : σ 240 p ≠ nI 3 := qeqF q5
                  repeat refine kX_one rfl ?_
                  refine kX_ialdN rfl rfl (by decide) (t) (by first | rfl | decide) (by omega) ?_
                  repeat refine kX_one rfl ?_
                  refine kX_ialdN rfl rfl (by decide) (p) (by first | rfl | decide) (by omega) ?_
                  repeat refine kX_one rfl ?_
                  refine kX_if (fun q6 => ?_) (fun q6 => ?_)
                  · have q6 : σ 233 t = σ 240 p := qeq q6
                    refine free (fun z => z.2 q6) _ rfl ?_
                    rw [hlv2]
                    rfl
                  · have q6 : σ 233 t ≠ σ 240 p := qeqF q6
                    iterate 1 (refine kX_one rfl ?_)
                    refine fail (by rw [mtF, if_neg q2', if_pos q3, hfk, if_neg (fun hh => hh q4), if_pos ⟨q5, q6⟩]) _ _ ?_
                    refine kX_ret (i := .ireturn) (len := 1) rfl (Or.inr rfl) rfl (⟨rfl, rfl⟩)
              · have q4 : ¬ a k < 0 := of_decide_eq_false q4
                repeat refine kX_one rfl ?_
                refine kX_ialdV (v := a k) rfl rfl (by decide) k rfl hk6 (j6 k hk6) ?_
                repeat refine kX_one rfl ?_
                refine kX_if (fun q5 => ?_) (fun q5 => ?_)
                · have q5 : a k = nI t := qeq q5
                  repeat refine kX_one rfl ?_
                  refine kX_ialdV (v := a k) rfl rfl (by decide) k rfl hk6 (j6 k hk6) ?_
                  repeat refine kX_one rfl ?_
                  refine kX_ifF (decide_eq_false q4) ?_
                  iterate 3 (refine kX_one rfl ?_)
                  have eu : upd a k (nI t) = a := by
                    funext z
                    unfold upd
                    split
                    · next e => rw [e, q5]
                    · rfl
                  refine bind (by rw [eu, mtF, if_neg q2', if_pos q3, hfk, if_pos q4, if_pos q5]) m j5 (by rw [eu]; exact j7) (by rw [eu]; exact j9) _ rfl ?_
                  rw [hlv2]
                  rfl
                · have q5 : a k ≠ nI t := qeqF q5
                  iterate 2 (refine kX_one rfl ?_)
                  refine fail (by rw [mtF, if_neg q2', if_pos q3, hfk, if_pos q4, if_neg q5]) _ _ ?_
                  refine kX_ret (i := .ireturn) (len := 1) rfl (Or.inr rfl) rfl (⟨rfl, rfl⟩)
          · have q2 := (bI_ne _).mp (qeqF q2)
            repeat refine kX_one rfl ?_
            refine kX_if (fun q3 => ?_) (fun q3 => ?_)
            · have q3 : p = t := nI_inj (qeq q3)
              refine back l0 a m W X A _ rfl w2 x2 j3' (by omega) j5 j6 j7 ?_ j9 _ rfl ?_
              · rw [← j8, mtF, if_pos q2, if_pos q3]
                rfl
              · rw [show nI l0.length = nI (l0.length + 1) + Int32.ofInt (-1) from hlocal.symm]
                rfl
            · have q3 : p ≠ t := fun e => qeqF q3 (by rw [e])
              iterate 1 (refine kX_one rfl ?_)
              refine fail (by rw [mtF, if_pos q2, if_neg q3]) _ _ ?_
              refine kX_ret (i := .ireturn) (len := 1) rfl (Or.inr rfl) rfl (⟨rfl, rfl⟩)
    · have q := qgeF q i 6
      repeat refine kX_one rfl ?_
      refine kX_ialdN rfl rfl (by decide) (6 * s + i) (ix6 s i) (by omega) ?_
      refine kX_iastN rfl rfl (by decide) (i) (by first | rfl | decide) (by omega) ?_
      iterate 2 (refine kX_one rfl ?_)
      rw [kup_up]
      have := ih (i + 1, upd A i (σ 265 (6 * s + i))) ⟨by simp only; omega, fun u hu => by
        simp only at hu ⊢
        by_cases e : u = i
        · subst e
          exact pk_us
        · rw [pk_un e]
          exact i2 u (by omega)⟩ (by simp only; omega)
      rw [← nI_1] at this
      exact this
end
section
/-! the reference: SESSIONS begin, next EVENTS -/
/-- cells of the class are as they were -/
def mLow (σ τ : kS) : Prop := ∀ c, c < 232 → τ c = σ c
theorem mLow_refl (σ : kS) : mLow σ σ := fun _ _ => rfl
theorem mLow_trans {σ τ ρ : kS} (h1 : mLow σ τ) (h2 : mLow τ ρ) : mLow σ ρ := fun c hc => (h2 c hc).trans (h1 c hc)
theorem mLow_up (σ : kS) {a : Nat} (f : Nat → Int32) (h : 232 ≤ a) : mLow σ (va_up σ a f) := fun c hc => kup_ne (by omega)
theorem mLow_fr {σ τ : kS} {n : Nat} (h : mFr σ τ n) : mLow σ τ := fun c hc => h.1 c (fun q => by
  simp only [rowC, List.mem_cons, List.not_mem_nil, or_false] at q
  omega)
set_option maxRecDepth 100000 in
set_option maxHeartbeats 4000000 in
theorem mr_begins (L : Nat) (xs : Nat → Int32) (d : Nat) (σ : kS) (n b R S : Nat) (h : mTb σ n b) (hR : mRo σ n R) (hS : mSe σ n R S) : kXM kT L xs (d + 1) 175 [.ref 232] σ (fun r σ' => r = none ∧ ∃ D V, σ' = va_up (va_up σ 264 D) 265 V ∧ (∀ s, s < S → D s = 0) ∧ (∀ s k, s < S → k < 6 → V (6 * s + k) = if k < fN (σ 244 (fN (σ 255 s))) then σ 256 (6 * s + k) else -6)) := by
  have hS4 := hS.1
  have hR4 := hR.1
  unfold kXM
  iterate 2 (refine kX_one rfl ?_)
  have loopA := kX_while (T := kT) (L := L) (xs := xs) (d := d + 1) (mi := 175) (pc := 2) (Q := fun r σ' => r = none ∧ ∃ D V, σ' = va_up (va_up σ 264 D) 265 V ∧ (∀ s, s < S → D s = 0) ∧ (∀ s k, s < S → k < 6 → V (6 * s + k) = if k < fN (σ 244 (fN (σ 255 s))) then σ 256 (6 * s + k) else -6))
    (fun q : Nat × (Nat → Int32) × (Nat → Int32) => [(1, .int (nI q.1)), (0, .ref 232)]) (fun q => va_up (va_up σ 264 q.2.1) 265 q.2.2) (fun q => q.1 ≤ S ∧ (∀ s, s < q.1 → q.2.1 s = 0) ∧ (∀ s k, s < q.1 → k < 6 → q.2.2 (6 * s + k) = if k < fN (σ 244 (fN (σ 255 s))) then σ 256 (6 * s + k) else -6)) (fun q => S - q.1) ?_ (0, σ 264, σ 265) ⟨Nat.zero_le _, fun s hs => absurd hs (Nat.not_lt_zero s), fun s k hs => absurd hs (Nat.not_lt_zero s)⟩
  · refine kX_st _ ?_ loopA
    funext c; first
      | ((repeat (refine va_case ?_ ?_; (· (intro h; first | (subst h; rfl) | (unfold va_up; repeat' split; (all_goals first | rfl | omega | (subst_vars; rfl) | (funext j; unfold upd; repeat' split; all_goals first | rfl | omega | (subst_vars; rfl)))))); intro h)); (repeat (refine va_case2 ?_ ?_; (· (intro h; first | exact absurd h (by assumption) | (subst h; rfl) | (subst h; funext j; unfold upd; repeat' split; (all_goals first | rfl | omega | (subst_vars; rfl))))); intro h)); rfl)
      | (unfold va_up; repeat' split
         all_goals first | rfl | omega | (subst_vars; rfl) | (funext j; unfold upd; repeat' split; all_goals first | rfl | omega | (subst_vars; rfl)))
  · rintro ⟨s, D, V⟩ ⟨i1, i2, i3⟩ ih
    dsimp only at i1 i2 i3 ih ⊢
    iterate 3 (refine kX_one rfl ?_)
    refine kX_top (hS.2.1) ?_
    repeat refine kX_one rfl ?_
    refine kX_if (fun q => ?_) (fun q => ?_)
    · have q := qge q s S
      obtain rfl : s = S := by omega
      refine kX_ret (i := .return_) (len := 1) rfl (Or.inr rfl) rfl (⟨rfl, D, V, rfl, i2, i3⟩)
    · have q := qgeF q s S
      obtain ⟨r, r1, r2, -⟩ := hS.2.2 s q
      obtain ⟨⟨v, hv6, hv⟩, -⟩ := hR.2.2.1 r r1
      have hfr : fN (σ 255 s) = r := by rw [r2]; exact fN_nI (by omega)
      have hfv : fN (σ 244 r) = v := by rw [hv]; exact fN_nI (by omega)
      repeat refine kX_one rfl ?_
      refine kX_iastN rfl rfl (by decide) (s) (by first | rfl | decide) (by omega) ?_
      iterate 2 (refine kX_one rfl ?_)
      have loopB := kX_while (T := kT) (L := L) (xs := xs) (d := d + 1) (mi := 175) (pc := 19) (Q := fun r σ' => r = none ∧ ∃ D V, σ' = va_up (va_up σ 264 D) 265 V ∧ (∀ s, s < S → D s = 0) ∧ (∀ s k, s < S → k < 6 → V (6 * s + k) = if k < fN (σ 244 (fN (σ 255 s))) then σ 256 (6 * s + k) else -6))
        (fun q : Nat × (Nat → Int32) => [(2, .int (nI q.1)), (1, .int (nI s)), (0, .ref 232)]) (fun q => va_up (va_up σ 264 (upd D s 0)) 265 q.2) (fun q => q.1 ≤ 6 ∧ (∀ s' k, s' < s → k < 6 → q.2 (6 * s' + k) = if k < fN (σ 244 (fN (σ 255 s'))) then σ 256 (6 * s' + k) else -6) ∧ ∀ k, k < q.1 → q.2 (6 * s + k) = if k < v then σ 256 (6 * s + k) else -6) (fun q => 6 - q.1) ?_ (0, V) ⟨Nat.zero_le _, i3, fun k hk => absurd hk (Nat.not_lt_zero k)⟩
      · refine kX_st _ ?_ loopB
        funext c; first
          | ((repeat (refine va_case ?_ ?_; (· (intro h; first | (subst h; rfl) | (unfold va_up; repeat' split; (all_goals first | rfl | omega | (subst_vars; rfl) | (funext j; unfold upd; repeat' split; all_goals first | rfl | omega | (subst_vars; rfl)))))); intro h)); (repeat (refine va_case2 ?_ ?_; (· (intro h; first | exact absurd h (by assumption) | (subst h; rfl) | (subst h; funext j; unfold upd; repeat' split; (all_goals first | rfl | omega | (subst_vars; rfl))))); intro h)); rfl)
          | (unfold va_up; repeat' split
             all_goals first | rfl | omega | (subst_vars; rfl) | (funext j; unfold upd; repeat' split; all_goals first | rfl | omega | (subst_vars; rfl)))
      · rintro ⟨k, V2⟩ ⟨j1, j2, j3⟩ ih2
        dsimp only at j1 j2 j3 ih2 ⊢
        repeat refine kX_one rfl ?_
        refine kX_if (fun q2 => ?_) (fun q2 => ?_)
        · have q2 := qge q2 k 6
          obtain rfl : k = 6 := by omega
          iterate 2 (refine kX_one rfl ?_)
          have := ih (s + 1, upd D s 0, V2) ⟨by simp only; omega, fun s' hs' => by
            simp only at hs' ⊢
            by_cases e : s' = s
            · subst e
              exact pk_us
            · rw [pk_un e]
              exact i2 s' (by omega), fun s' k hs' hk => by
            simp only at hs' ⊢
            by_cases e : s' = s
            · subst e
              rw [hfr, hfv]
              exact j3 k hk
            · exact j2 s' k (by omega) hk⟩ (by simp only; omega)
          rw [← nI_1] at this
          exact kX_lv _ rfl rfl rfl this
        · have q2 := qgeF q2 k 6
          have back : ∀ x : Int32, x = (if k < v then σ 256 (6 * s + k) else -6) → kX kT L xs (d + 1) 175 66 [(2, .int (nI k)), (1, .int (nI s)), (0, .ref 232)] [.int x, .int (nI (6 * s + k)), .ref 265] (va_up (va_up σ 264 (upd D s 0)) 265 V2) (fun r σ' => r = none ∧ ∃ D V, σ' = va_up (va_up σ 264 D) 265 V ∧ (∀ s, s < S → D s = 0) ∧ (∀ s k, s < S → k < 6 → V (6 * s + k) = if k < fN (σ 244 (fN (σ 255 s))) then σ 256 (6 * s + k) else -6)) := by
            intro x hx
            refine kX_iastN rfl rfl (by decide) (6 * s + k) (by first | rfl | decide) (by omega) ?_
            iterate 2 (refine kX_one rfl ?_)
            rw [kup_up]
            have := ih2 (k + 1, upd V2 (6 * s + k) x) ⟨by simp only; omega, fun s' k' hs' hk' => by
              simp only
              rw [pk_un (by omega)]
              exact j2 s' k' hs' hk', fun k' hk' => by
              simp only at hk' ⊢
              by_cases e : k' = k
              · subst e
                rw [pk_us]
                exact hx
              · rw [pk_un (by omega)]
                exact j3 k' (by omega)⟩ (by simp only; omega)
            rw [← nI_1] at this
            exact this
          iterate 7 (refine kX_one rfl ?_)
          refine kX_top (ix6 s k) ?_
          repeat refine kX_one rfl ?_
          refine kX_ialdV rfl rfl (by decide) (s) (by first | rfl | decide) (by omega) (r2) ?_
          refine kX_ialdV rfl rfl (by decide) (r) (by first | rfl | decide) (by omega) (hv) ?_
          repeat refine kX_one rfl ?_
          refine kX_if (fun q3 => ?_) (fun q3 => ?_)
          · have q3 := qge q3 k v
            iterate 1 (refine kX_one rfl ?_)
            exact back _ (by rw [if_neg (by omega)]; rfl)
          · have q3 := qgeF q3 k v
            repeat refine kX_one rfl ?_
            refine kX_ialdV (v := σ 256 (6 * s + k)) rfl rfl (by decide) (6 * s + k) (ix6 s k) (by omega) rfl ?_
            iterate 1 (refine kX_one rfl ?_)
            exact back _ (by rw [if_pos q3])
/-- SESSIONS at their beginning -/
theorem mSn_begin {σ : kS} {n b R S : Nat} {D V : Nat → Int32} (h : mTb σ n b) (hR : mRo σ n R) (hS : mSe σ n R S) (hD : ∀ s, s < S → D s = 0) (hV : ∀ s k, s < S → k < 6 → V (6 * s + k) = if k < fN (σ 244 (fN (σ 255 s))) then σ 256 (6 * s + k) else -6) : ∀ s, s < S → mSn (va_up (va_up σ 264 D) 265 V) n R s 0 := by
  intro s hs
  have hn := h.1
  obtain ⟨r, r1, r2, r3, r4⟩ := hS.2.2 s hs
  have hR4 := hR.1
  have hfr : fN (σ 255 s) = r := by rw [r2]; exact fN_nI (by omega)
  have hv6 : fN (σ 244 r) ≤ 6 := by
    obtain ⟨⟨v, h1, h2⟩, -⟩ := hR.2.2.1 r r1
    rw [h2, fN_nI (by omega)]
    exact h1
  refine ⟨r, r1, r2, (hD s hs).trans nI_0.symm, Nat.zero_le _, fun k hk => ?_, fun e he => absurd he (Nat.not_lt_zero e), fun k hk ha hne => ?_⟩
  · show (V (6 * s + k) = -6 ∧ (k < fN (σ 244 r) → σ 246 (6 * r + k) = nI 2)) ∨ ∃ z, z < n ∧ V (6 * s + k) = nI z ∧ tgd (σ 233) (σ 234) (σ 235) z = true ∧ k < fN (σ 244 r) ∧ (σ 240 (fN (σ 245 (6 * r + k))) = nI 3 ∨ σ 240 (fN (σ 245 (6 * r + k))) = σ 233 z)
    rw [hV s k hs hk, hfr]
    by_cases hkv : k < fN (σ 244 r)
    · rw [if_pos hkv]
      obtain ⟨as, a1, a2⟩ := r4 k hkv
      rcases a2 with ⟨rfl, a2⟩ | ⟨a2, z, z1, z2, z3⟩
      · exact Or.inl ⟨a2, fun _ => a1⟩
      · refine Or.inr ⟨z, z1, z2, ?_, hkv, Or.inr z3.symm⟩
        obtain ⟨t, so, as', t1, t2, t3, t4, t5, t6, t7, t8, t9, t10, t11⟩ := hR.2.2.2.1 r k r1 hkv
        have has : as = as' := nI_inj (a1.symm.trans t9)
        subst has
        have hso : so ≤ 2 := by
          obtain rfl | rfl : as = 0 ∨ as = 1 := by omega
          · have := t10 rfl
            omega
          · have := t11 rfl
            omega
        rw [t2, fN_nI (by omega), t7] at z3
        rw [tgd_0 z3 (by omega)]
        exact decide_eq_true (by omega)
    · rw [if_neg hkv]
      exact Or.inl ⟨rfl, fun q => absurd q hkv⟩
  · exfalso
    apply hne
    show V (6 * s + k) = -6
    have hk' : k < fN (σ 244 r) := hk
    rw [hV s k hs (by omega), hfr, if_pos hk']
    obtain ⟨as, a1, a2⟩ := r4 k hk'
    have : as = 2 := by
      have ha' : σ 246 (6 * r + k) = nI 2 := ha
      rcases a2 with ⟨e, -⟩ | ⟨e, -⟩
      · exact e
      · exact nI_inj (a1.symm.trans ha')
    rcases a2 with ⟨-, a2⟩ | ⟨a2, -⟩
    · exact a2
    · omega
set_option maxRecDepth 100000 in
set_option maxHeartbeats 4000000 in
theorem mr_nextEvent (L : Nat) (xs : Nat → Int32) (d : Nat) (σ : kS) (n R s r dn : Nat) (hR : mRo σ n R) (hs : s < 4) (r1 : r < R) (r2 : σ 255 s = nI r) (r3 : σ 264 s = nI dn) (hdn : dn ≤ 6) : kXM kT L xs (d + 1) 193 [.ref 232, .int (nI s)] σ (fun x σ' => x = some (.int (if dn < fN (σ 247 r) then nI (6 * r + dn) else -1)) ∧ σ = σ') := by
  obtain ⟨-, ev, he6, hev⟩ := hR.2.2.1 r r1
  have hR4 := hR.1
  have hfe : fN (σ 247 r) = ev := by rw [hev]; exact fN_nI (by omega)
  unfold kXM
  repeat refine kX_one rfl ?_
  refine kX_ialdV rfl rfl (by decide) (s) (by first | rfl | decide) (hs) (r2) ?_
  repeat refine kX_one rfl ?_
  refine kX_ialdV rfl rfl (by decide) (s) (by first | rfl | decide) (hs) (r3) ?_
  repeat refine kX_one rfl ?_
  refine kX_ialdV rfl rfl (by decide) (r) (by first | rfl | decide) (by omega) (hev) ?_
  repeat refine kX_one rfl ?_
  refine kX_if (fun q => ?_) (fun q => ?_)
  · have q := qge q dn ev
    repeat refine kX_one rfl ?_
    refine kX_ret (i := .ireturn) (len := 1) rfl (Or.inr rfl) rfl (⟨by rw [if_neg (by omega)]; rfl, rfl⟩)
  · have q := qgeF q dn ev
    repeat refine kX_one rfl ?_
    refine kX_ialdV rfl rfl (by decide) (s) (by first | rfl | decide) (hs) (r3) ?_
    iterate 1 (refine kX_one rfl ?_)
    refine kX_top (ix6 r dn) ?_
    repeat refine kX_one rfl ?_
    refine kX_ret (i := .ireturn) (len := 1) rfl (Or.inr rfl) rfl (⟨by rw [if_pos (by omega)], rfl⟩)
set_option maxRecDepth 100000 in
set_option maxHeartbeats 4000000 in
theorem mr_does (L : Nat) (xs : Nat → Int32) (d : Nat) (σ : kS) (s k dn : Nat) (bd : Int32) (hs : s < 4) (h1 : σ 232 55 = nI k) (hk : k < 24) (h2 : σ 264 s = nI dn) : kXM kT L xs (d + 1) 194 [.ref 232, .int (nI s), .int bd] σ (fun x σ' => x = none ∧ σ' = va_up (va_up (va_up (va_up σ 274 (upd (σ 274) k (nI s))) 275 (upd (σ 275) k bd)) 232 (upd (σ 232) 55 (nI (k + 1)))) 264 (upd (σ 264) s (nI (dn + 1)))) := by
  unfold kXM
  repeat refine kX_one rfl ?_
  refine kX_iastN rfl rfl (by decide) k h1 hk ?_
  repeat refine kX_one rfl ?_
  refine kX_iastN rfl rfl (by decide) k h1 hk ?_
  iterate 3 (refine kX_one rfl ?_)
  refine kX_top (h1) ?_
  iterate 2 (refine kX_one rfl ?_)
  refine kX_top (nI_1 k) ?_
  repeat refine kX_one rfl ?_
  refine kX_ialdV rfl rfl (by decide) (s) (by first | rfl | decide) (hs) (h2) ?_
  iterate 2 (refine kX_one rfl ?_)
  refine kX_top (nI_1 dn) ?_
  refine kX_iastN rfl rfl (by decide) (s) (by first | rfl | decide) (hs) ?_
  refine kX_ret (i := .return_) (len := 1) rfl (Or.inr rfl) rfl (⟨rfl, rfl⟩)
end
