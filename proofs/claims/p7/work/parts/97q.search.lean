/-! the reference: search -/
set_option maxRecDepth 100000 in
set_option maxHeartbeats 4000000 in
theorem mr_se_k1 (L : Nat) (xs : Nat → Int32) (d : Nat) (σ : kS) (Q : Option Value → kS → Prop) (he : ∀ KD, (∀ j, j < 4 → KD j = σ 264 j) → kX kT L xs (d + 1) 220 25 [(0, .ref 232)] [] (va_up σ 290 KD) Q) :
    ∀ q : Nat × (Nat → Int32), (q.1 ≤ 4 ∧ ∀ j, j < q.1 → q.2 j = σ 264 j) → kX kT L xs (d + 1) 220 2 [(1, .int (nI q.1)), (0, .ref 232)] [] (va_up σ 290 q.2) Q := by
  refine kX_while (fun q : Nat × (Nat → Int32) => [(1, .int (nI q.1)), (0, .ref 232)]) (fun q => va_up σ 290 q.2) _ (fun q => 4 - q.1) ?_
  rintro ⟨k, A⟩ ⟨i1, i2⟩ ih
  dsimp only at i1 i2 ih ⊢
  iterate 2 (refine kX_one rfl ?_)
  repeat refine kX_one rfl ?_
  refine kX_if (fun q => ?_) (fun q => ?_)
  · have q := qge q k 4
    obtain rfl : k = 4 := by omega
    exact kX_lv _ rfl rfl rfl (he A i2)
  · have q := qgeF q k 4
    iterate 6 (refine kX_one rfl ?_)
    refine kX_ialdN rfl rfl (by decide) (k) (by first | rfl | decide) (q) ?_
    refine kX_iastN rfl rfl (by decide) (k) (by first | rfl | decide) (q) ?_
    iterate 2 (refine kX_one rfl ?_)
    have := ih (k + 1, upd A k (σ 264 k)) ⟨q, fun j hj => by
      simp only at hj ⊢
      by_cases e : j = k
      · subst e
        exact pk_us
      · rw [pk_un e]
        exact i2 j (by omega)⟩ (by simp only; omega)
    dsimp only at this
    rw [← nI_1] at this
    refine kX_to _ _ rfl rfl rfl ?_ this
    funext c; unfold  va_up; repeat' split
    all_goals first | rfl | omega | (subst_vars; rfl) | (funext j; unfold upd; repeat' split; all_goals first | rfl | omega | (subst_vars; rfl))
set_option maxRecDepth 100000 in
set_option maxHeartbeats 4000000 in
theorem mr_se_k2 (L : Nat) (xs : Nat → Int32) (d : Nat) (σ : kS) (Q : Option Value → kS → Prop) (he : ∀ KD, (∀ j, j < 24 → KD j = σ 265 j) → kX kT L xs (d + 1) 220 51 [(0, .ref 232)] [] (va_up σ 291 KD) Q) :
    ∀ q : Nat × (Nat → Int32), (q.1 ≤ 24 ∧ ∀ j, j < q.1 → q.2 j = σ 265 j) → kX kT L xs (d + 1) 220 27 [(1, .int (nI q.1)), (0, .ref 232)] [] (va_up σ 291 q.2) Q := by
  refine kX_while (fun q : Nat × (Nat → Int32) => [(1, .int (nI q.1)), (0, .ref 232)]) (fun q => va_up σ 291 q.2) _ (fun q => 24 - q.1) ?_
  rintro ⟨k, A⟩ ⟨i1, i2⟩ ih
  dsimp only at i1 i2 ih ⊢
  iterate 2 (refine kX_one rfl ?_)
  repeat refine kX_one rfl ?_
  refine kX_if (fun q => ?_) (fun q => ?_)
  · have q := qge q k 24
    obtain rfl : k = 24 := by omega
    exact kX_lv _ rfl rfl rfl (he A i2)
  · have q := qgeF q k 24
    iterate 6 (refine kX_one rfl ?_)
    refine kX_ialdN rfl rfl (by decide) (k) (by first | rfl | decide) (q) ?_
    refine kX_iastN rfl rfl (by decide) (k) (by first | rfl | decide) (q) ?_
    iterate 2 (refine kX_one rfl ?_)
    have := ih (k + 1, upd A k (σ 265 k)) ⟨q, fun j hj => by
      simp only at hj ⊢
      by_cases e : j = k
      · subst e
        exact pk_us
      · rw [pk_un e]
        exact i2 j (by omega)⟩ (by simp only; omega)
    dsimp only at this
    rw [← nI_1] at this
    refine kX_to _ _ rfl rfl rfl ?_ this
    funext c; unfold  va_up; repeat' split
    all_goals first | rfl | omega | (subst_vars; rfl) | (funext j; unfold upd; repeat' split; all_goals first | rfl | omega | (subst_vars; rfl))
set_option maxRecDepth 100000 in
set_option maxHeartbeats 4000000 in
theorem mr_se_r1 (L : Nat) (xs : Nat → Int32) (d : Nat) (σ : kS) (v : Int32) (Q : Option Value → kS → Prop) (he : ∀ KD, (∀ j, j < 4 → KD j = σ 290 j) → kX kT L xs (d + 1) 220 127 [(0, .ref 232), (1, .int v)] [] (va_up σ 264 KD) Q) :
    ∀ q : Nat × (Nat → Int32), (q.1 ≤ 4 ∧ ∀ j, j < q.1 → q.2 j = σ 290 j) → kX kT L xs (d + 1) 220 104 [(2, .int (nI q.1)), (0, .ref 232), (1, .int v)] [] (va_up σ 264 q.2) Q := by
  refine kX_while (fun q : Nat × (Nat → Int32) => [(2, .int (nI q.1)), (0, .ref 232), (1, .int v)]) (fun q => va_up σ 264 q.2) _ (fun q => 4 - q.1) ?_
  rintro ⟨k, A⟩ ⟨i1, i2⟩ ih
  dsimp only at i1 i2 ih ⊢
  iterate 2 (refine kX_one rfl ?_)
  repeat refine kX_one rfl ?_
  refine kX_if (fun q => ?_) (fun q => ?_)
  · have q := qge q k 4
    obtain rfl : k = 4 := by omega
    exact kX_lv _ rfl rfl rfl (he A i2)
  · have q := qgeF q k 4
    iterate 6 (refine kX_one rfl ?_)
    refine kX_ialdN rfl rfl (by decide) (k) (by first | rfl | decide) (q) ?_
    refine kX_iastN rfl rfl (by decide) (k) (by first | rfl | decide) (q) ?_
    iterate 2 (refine kX_one rfl ?_)
    have := ih (k + 1, upd A k (σ 290 k)) ⟨q, fun j hj => by
      simp only at hj ⊢
      by_cases e : j = k
      · subst e
        exact pk_us
      · rw [pk_un e]
        exact i2 j (by omega)⟩ (by simp only; omega)
    dsimp only at this
    rw [← nI_1] at this
    refine kX_to _ _ rfl rfl rfl ?_ this
    funext c; unfold  va_up; repeat' split
    all_goals first | rfl | omega | (subst_vars; rfl) | (funext j; unfold upd; repeat' split; all_goals first | rfl | omega | (subst_vars; rfl))
set_option maxRecDepth 100000 in
set_option maxHeartbeats 4000000 in
theorem mr_se_r2 (L : Nat) (xs : Nat → Int32) (d : Nat) (σ : kS) (v : Int32) (Q : Option Value → kS → Prop) (he : ∀ KD, (∀ j, j < 24 → KD j = σ 291 j) → kX kT L xs (d + 1) 220 153 [(0, .ref 232), (1, .int v)] [] (va_up σ 265 KD) Q) :
    ∀ q : Nat × (Nat → Int32), (q.1 ≤ 24 ∧ ∀ j, j < q.1 → q.2 j = σ 291 j) → kX kT L xs (d + 1) 220 129 [(2, .int (nI q.1)), (0, .ref 232), (1, .int v)] [] (va_up σ 265 q.2) Q := by
  refine kX_while (fun q : Nat × (Nat → Int32) => [(2, .int (nI q.1)), (0, .ref 232), (1, .int v)]) (fun q => va_up σ 265 q.2) _ (fun q => 24 - q.1) ?_
  rintro ⟨k, A⟩ ⟨i1, i2⟩ ih
  dsimp only at i1 i2 ih ⊢
  iterate 2 (refine kX_one rfl ?_)
  repeat refine kX_one rfl ?_
  refine kX_if (fun q => ?_) (fun q => ?_)
  · have q := qge q k 24
    obtain rfl : k = 24 := by omega
    exact kX_lv _ rfl rfl rfl (he A i2)
  · have q := qgeF q k 24
    iterate 6 (refine kX_one rfl ?_)
    refine kX_ialdN rfl rfl (by decide) (k) (by first | rfl | decide) (q) ?_
    refine kX_iastN rfl rfl (by decide) (k) (by first | rfl | decide) (q) ?_
    iterate 2 (refine kX_one rfl ?_)
    have := ih (k + 1, upd A k (σ 291 k)) ⟨q, fun j hj => by
      simp only at hj ⊢
      by_cases e : j = k
      · subst e
        exact pk_us
      · rw [pk_un e]
        exact i2 j (by omega)⟩ (by simp only; omega)
    dsimp only at this
    rw [← nI_1] at this
    refine kX_to _ _ rfl rfl rfl ?_ this
    funext c; unfold  va_up; repeat' split
    all_goals first | rfl | omega | (subst_vars; rfl) | (funext j; unfold upd; repeat' split; all_goals first | rfl | omega | (subst_vars; rfl))
set_option maxRecDepth 100000 in
set_option maxHeartbeats 4000000 in
theorem mr_se_end (L : Nat) (xs : Nat → Int32) (d : Nat) (τ : kS) (v : Int32) (Q : Option Value → kS → Prop)
    (he : ∀ x RD RV, (∀ j, j < 4 → RD j = τ 290 j) → (∀ j, j < 24 → RV j = τ 291 j) → Q (some (.int x)) (va_up (va_up (va_up τ 264 RD) 265 RV) 232 (upd (τ 232) 47 0))) :
    kX kT L xs (d + 1) 220 102 [(0, .ref 232), (1, .int v)] [] τ Q := by
  iterate 2 (refine kX_one rfl ?_)
  have h1 := mr_se_r1 L xs d τ v Q (fun RD hD => ?_) (0, τ 264) ⟨Nat.zero_le _, fun j hj => absurd hj (Nat.not_lt_zero j)⟩
  · refine kX_to _ _ rfl rfl rfl ?_ h1
    funext c; unfold  va_up; repeat' split
    all_goals first | rfl | omega | (subst_vars; rfl) | (funext j; unfold upd; repeat' split; all_goals first | rfl | omega | (subst_vars; rfl))
  · iterate 2 (refine kX_one rfl ?_)
    have h2 := mr_se_r2 L xs d (va_up τ 264 RD) v Q (fun RV hV => ?_) (0, τ 265) ⟨Nat.zero_le _, fun j hj => absurd hj (Nat.not_lt_zero j)⟩
    · refine kX_to _ _ rfl rfl rfl ?_ h2
      funext c; unfold  va_up; repeat' split
      all_goals first | rfl | omega | (subst_vars; rfl) | (funext j; unfold upd; repeat' split; all_goals first | rfl | omega | (subst_vars; rfl))
    · iterate 5 (refine kX_one rfl ?_)
      refine kX_st (va_up (va_up (va_up τ 264 RD) 265 RV) 232 (upd (τ 232) 47 0)) rfl ?_
      repeat refine kX_one rfl ?_
      refine kX_if (fun q => ?_) (fun q => ?_)
      · iterate 2 (refine kX_one rfl ?_)
        repeat refine kX_one rfl ?_
        refine kX_if (fun q2 => ?_) (fun q2 => ?_)
        · repeat refine kX_one rfl ?_
          refine kX_ret (i := .ireturn) (len := 1) rfl (Or.inr rfl) rfl (he _ RD RV hD hV)
        · repeat refine kX_one rfl ?_
          refine kX_ret (i := .ireturn) (len := 1) rfl (Or.inr rfl) rfl (he _ RD RV hD hV)
      · repeat refine kX_one rfl ?_
        refine kX_ret (i := .ireturn) (len := 1) rfl (Or.inr rfl) rfl (he _ RD RV hD hV)
theorem se_Rn {σ τ : kS} {n b b' R S : Nat} {ds : List Nat} {RD RV : Nat → Int32} (h : mTb σ n b) (hR : mRo σ n R) (hF : mSf σ τ n) (hS4 : S ≤ 4) (hS : mRn σ n R S ds) (hT : mTb τ n b') (hd : ∀ j, j < 4 → RD j = σ 264 j) (hv : ∀ j, j < 24 → RV j = σ 265 j) : mRn (va_up (va_up τ 264 RD) 265 RV) n R S ds := by
  have g := mFr_Rn (τ := pat σ τ) h hR (pat_fr hF) hS
  have hR1 : mRo (pat σ τ) n R := mFr_Ro (τ := pat σ τ) h (pat_fr hF) hR
  have hT1 : mTb (pat σ τ) n b' := hT
  have hR2 : mRo (va_up (va_up τ 264 RD) 265 RV) n R := hR1
  have hT2 : mTb (va_up (va_up τ 264 RD) 265 RV) n b' := hT
  refine ⟨g.1, g.2.1, g.2.2.1, fun s hs => ?_⟩
  have gs := g.2.2.2 s hs
  obtain ⟨r, r1, r2, -⟩ := gs
  obtain ⟨a1, a2, a3⟩ := mSn_iff hT1 hR1 (g.2.2.2 s hs) r2 r1
  refine mSn_of (r := r) hT2 hR2 r1 r2 ?_ a2 (fun k hk => ?_)
  · show RD s = _
    rw [hd s (by omega)]
    exact a1
  · have e : RV (6 * s + k) = σ 265 (6 * s + k) := hv _ (by omega)
    have := a3 k hk
    show (bdv τ r _ k → mVz τ n r k (RV (6 * s + k))) ∧ (¬ bdv τ r _ k → RV (6 * s + k) = -6)
    rw [e]
    exact this
/-- the first STATE -/
theorem se_cfg {σ : kS} {n b R S : Nat} {D V : Nat → Int32} (h : mTb σ n b) (hR : mRo σ n R) (hS : mSe σ n R S) (hD : ∀ s, s < S → D s = 0) (hV : ∀ s k, s < S → k < 6 → V (6 * s + k) = if k < fN (σ 244 (fN (σ 255 s))) then σ 256 (6 * s + k) else -6) : cfg (va_up (va_up σ 264 D) 265 V) n R S D V := by
  have hR4 := hR.1
  intro s hs
  obtain ⟨r, r1, r2, -⟩ := hS.2.2 s hs
  have hm := mSn_begin h hR hS hD hV s hs
  have hT2 : mTb (va_up (va_up σ 264 D) 265 V) n b := h
  have hR2 : mRo (va_up (va_up σ 264 D) 265 V) n R := hR
  obtain ⟨a1, a2, a3⟩ := mSn_iff hT2 hR2 hm r2 r1
  refine ⟨r, 0, r1, r2, hD s hs, a2, fun k hk => ⟨fun hb => ⟨(a3 k hk).1 hb, fun _ => ?_⟩, (a3 k hk).2⟩⟩
  have hb1 : k < fN (σ 244 r) := hb.1
  show V (6 * s + k) = σ 256 (6 * s + k)
  rw [hV s k hs hk, r2, fN_nI (by omega), if_pos hb1]
set_option maxRecDepth 100000 in
set_option maxHeartbeats 4000000 in
theorem mr_se_loop (L : Nat) (xs : Nat → Int32) (d : Nat) (σ : kS) (n b R S C : Nat) (kl : List Nat) (h : mTb σ n b) (hB : mBs σ n R S C kl) (Q : Option Value → kS → Prop)
    (he : ∀ v τ, (∃ N', ceR C N' (some (.int v)) ∧ mSf σ τ n ∧ (∃ b, mTb τ n b) ∧ mSs τ n R S N') → kX kT L xs (d + 11) 220 94 [(0, .ref 232), (1, .int v)] [] τ Q) :
    ∀ q : Nat × Int32 × kS, (q.1 ≤ 600 ∧ ∃ N', ceR C N' (some (.int q.2.1)) ∧ mSf σ q.2.2 n ∧ (∃ b, mTb q.2.2 n b) ∧ mSs q.2.2 n R S N') → kX kT L xs (d + 11) 220 68 [(2, .int (nI q.1)), (1, .int q.2.1), (0, .ref 232)] [] q.2.2 Q := by
  refine kX_while (fun q : Nat × Int32 × kS => [(2, .int (nI q.1)), (1, .int q.2.1), (0, .ref 232)]) (fun q => q.2.2) _ (fun q => 600 - q.1) ?_
  rintro ⟨i, v, τ⟩ ⟨i1, i2⟩ ih
  dsimp only at i1 i2 ih ⊢
  have hI := i2
  obtain ⟨N', g1, g2, ⟨b', g3⟩, g4⟩ := i2
  have hN6 := g4.1
  iterate 3 (refine kX_one rfl ?_)
  refine kX_top (g4.2.1) ?_
  repeat refine kX_one rfl ?_
  refine kX_if (fun q => ?_) (fun q => ?_)
  · exact kX_lv _ rfl rfl rfl (he v τ hI)
  · have q := qgeF q i N'
    iterate 2 (refine kX_one rfl ?_)
    repeat refine kX_one rfl ?_
    refine kX_if (fun q2 => ?_) (fun q2 => ?_)
    · exact kX_lv _ rfl rfl rfl (he v τ hI)
    · iterate 2 (refine kX_one rfl ?_)
      refine kX_cal (mr_goesOn L xs d τ n b' R S C N' i kl g3 (mBs_sf h g2 hB) g4 q) rfl (Or.inr rfl) rfl rfl rfl (fun r1 τ2 q1 => ?_)
      obtain ⟨N2, m1, m2, m3, m4, m5⟩ := q1
      have hgo : ∀ w : Int32, r1 = some (.int w) → kX kT L xs (d + 11) 220 87 [(2, .int (nI i)), (1, .int v), (0, .ref 232)] [.int w] τ2 Q := by
        intro w hw
        subst hw
        iterate 3 (refine kX_one rfl ?_)
        have := ih (i + 1, w, τ2) ⟨by simp only; omega, N2, m2, mSf_trans g2 m3, m4, m5⟩ (by simp only; omega)
        dsimp only at this
        rw [← nI_1] at this
        exact kX_lv _ rfl rfl rfl this
      rcases m2 with rfl | rfl | ⟨c', hc', rfl, -⟩
      · exact hgo _ rfl
      · exact hgo _ rfl
      · exact hgo _ rfl
