/-! alike: an intruder starts -/
theorem tdp_sz {V AG : Nat → Prop} {K F S : Nat → Int32} (hV : ∀ t, V t → t < 100000 ∧ tOk V AG K F S t) : ∀ t, V t → tdp K F S t + 1 ≤ tsz K F S t := by
  intro t
  induction t using Nat.strongRecOn with
  | _ t ih =>
    intro ht
    rcases (hV t ht).2 with ⟨k, h3, hk, -, -⟩ | ⟨k, x, y, h3, hk, hx, hy, h4, h5, h6, h7⟩ | ⟨k, x, h3, hk, hx, hy, h4, h6⟩
    · unfold tdp tsz
      rw [tA_0 hk h3, tA_0 hk h3]
      exact Nat.le_refl _
    · have a1 := ih x h4 h6
      have a2 := ih y h5 h7
      have e1 : tsz K F S t = 1 + tsz K F S x + tsz K F S y := tA_2 hV hk hx hy (by omega) (by omega) h4 h5 h6 h7
      rw [tdp_2 hV hk hx hy (by omega) (by omega) h4 h5 h6 h7, e1]
      omega
    · have a1 := ih x h4 h6
      have e1 : tsz K F S t = 1 + tsz K F S x + 0 := tA_1 hV hk hx hy (by omega) (by omega) h4 h6
      rw [tdp_1 hV hk hx hy (by omega) (by omega) h4 h6, e1]
      omega
/-- both tables, folded -/
theorem aT_A {α : Type} {lf lf' : Nat → α} {nd : Nat → α → Option α → α} {σ : kS} {n b : Nat} (hT : mTb σ n b) (hA : ∀ t, t < n → aT1 σ t) (hl : ∀ t, t < n → lf' t = lf t) {t : Nat} (ht : t < n) : tA lf' nd (σ 2) (σ 3) (σ 4) t = tA lf nd (σ 233) (σ 234) (σ 235) t :=
  tA_congr (mTb_num hT) (fun t ht => by obtain ⟨a, b, c, -⟩ := hA t ht; exact ⟨a, b, c, hl t ht⟩) t ht
theorem aT_tv {σ : kS} {n b t : Nat} (hT : mTb σ n b) (hA : ∀ t, t < n → aT1 σ t) (ht : t < n) : kTv σ t = tvl (σ 233) (σ 234) (σ 235) t := aT_A hT hA (fun _ _ => rfl) ht
theorem aT_gd {σ : kS} {n b t : Nat} (hT : mTb σ n b) (hA : ∀ t, t < n → aT1 σ t) (ht : t < n) : tgd (σ 2) (σ 3) (σ 4) t = tgd (σ 233) (σ 234) (σ 235) t := aT_A hT hA (fun t ht => by rw [(hA t ht).1]) ht
theorem aT_vs {σ : kS} {n b t : Nat} (hT : mTb σ n b) (hA : ∀ t, t < n → aT1 σ t) (ht : t < n) : kVs σ t = tvs (σ 233) (σ 234) (σ 235) t := aT_A hT hA (fun t ht => by rw [(hA t ht).1]) ht
theorem aT_dp {σ : kS} {n b t : Nat} (hT : mTb σ n b) (hA : ∀ t, t < n → aT1 σ t) (ht : t < n) : kDp σ t ≤ 23 ∧ kSz σ t ≤ 24 := by
  have e1 : kDp σ t = tdp (σ 233) (σ 234) (σ 235) t := aT_A hT hA (fun _ _ => rfl) ht
  have e2 : kSz σ t = tsz (σ 233) (σ 234) (σ 235) t := by unfold kSz tsz; exact aT_A hT hA (fun _ _ => rfl) ht
  have h1 := tdp_sz (mTb_num hT) t ht
  have h2 := hT.2.2.2.2.2.2.2.2.2 t ht
  rw [e1, e2]
  omega
theorem aT_gR {σ : kS} {n b : Nat} (hT : mTb σ n b) (hA : ∀ t, t < n → aT1 σ t) : gR σ n := by
  intro t ht
  rw [(hA t ht).2.2.2.2.1, hT.2.2.2.2.2.2.1 t (Or.inl ht), ← aT_gd hT hA ht]
  unfold kGd
  cases tgd (σ 2) (σ 3) (σ 4) t
  · exact (isB_F (by decide)).symm
  · exact (isB_T rfl).symm
theorem aT_W {σ : kS} {n b st : Nat} (hT : mTb σ n b) (hA : ∀ t, t < n → aT1 σ t) : tbW (kV n st 0) (kAG σ n) (σ 2) (σ 3) (σ 4) (σ 5) := by
  have hv : ∀ t, kV n st 0 t → t < n := fun t ht => by unfold kV at ht; omega
  refine ⟨fun t ht => ⟨(mTb_num hT t (hv t ht)).1, ?_⟩, fun t ht => ?_, fun t u ht hu h1 h2 h3 h4 => ?_⟩
  · obtain ⟨a, b', c, -⟩ := hA t (hv t ht)
    refine tOk_mono (fun x _ q => Or.inl q) (fun x hx q => ⟨q.1, ?_⟩) a b' c (mTb_num hT t (hv t ht)).2
    have hx := hA x q.1
    rcases q.2 with e | e
    · exact Or.inl (hx.1.trans e)
    · exact Or.inr ⟨hx.1.trans e.1, (hx.2.2.2.2.2.2 e.1).2.1.trans e.2⟩
  · have e2 : tsz (σ 2) (σ 3) (σ 4) t = tsz (σ 233) (σ 234) (σ 235) t := by unfold tsz; exact aT_A hT hA (fun _ _ => rfl) (hv t ht)
    rw [e2, (hA t (hv t ht)).2.2.2.1]
    exact hT.2.2.2.2.2.1.2.1 t (Or.inl (hv t ht))
  · obtain ⟨a, b', c, -⟩ := hA t (hv t ht)
    obtain ⟨a2, b2, c2, -⟩ := hA u (hv u hu)
    refine hT.2.2.2.2.2.1.2.2 t u (Or.inl (hv t ht)) (Or.inl (hv u hu)) ?_ ?_ ?_ ?_
    · rw [← a]
      exact h1
    · rw [← a, ← a2]
      exact h2
    · rw [← b', ← b2]
      exact h3
    · rw [← c, ← c2]
      exact h4
theorem nI_nm2 {q m : Nat} (h : q ≤ m) (hm : m < 2147483646) : nI q ≠ nI (m + 1) ∧ -(nI q) ≠ nI (m + 1) ∧ nI q ≠ -(nI (m + 1)) ∧ -(nI q) ≠ -(nI (m + 1)) := by
  have e1 : (nI q).toInt = (q : Int) := nI_toInt (by omega)
  have e2 : (nI (m + 1)).toInt = ((m + 1 : Nat) : Int) := nI_toInt (by omega)
  have e3 : (-(nI q)).toInt = -(q : Int) := by
    rw [Int32.toInt_neg, e1, Int.bmod_def]
    omega
  have e4 : (-(nI (m + 1))).toInt = -((m + 1 : Nat) : Int) := by
    rw [Int32.toInt_neg, e2, Int.bmod_def]
    omega
  refine ⟨fun e => ?_, fun e => ?_, fun e => ?_, fun e => ?_⟩ <;> have e := congrArg Int32.toInt e <;> simp only [e1, e2, e3, e4] at e <;> omega
/-- what start leaves -/
def ksP (σ τ : kS) (K st m : Nat) : Prop := (∀ c, c < K ∨ K + 2 ≤ c → τ c = σ c) ∧ τ K 1 = nI st ∧ τ K 3 = 0 ∧ τ K 7 = 0 ∧ (∀ s, s < 256 → τ (K + 1) s = -1) ∧ τ K 12 = nI (m + 1) ∧ τ K 13 = 0
theorem iE_start {σ τ : kS} {K st n b m : Nat} (hK : isK K st) (hT : mTb σ n b) (hA : aT σ n) (hct : σ 1 11 = nI n) (hM : kMs σ K m) (hm : m < 2147483646) (h : ksP σ τ K st m) : iE τ K st n 0 (m + 1) [] ∧ cCn τ n ∧ gR τ n := by
  have hb := isK_b hK
  obtain ⟨e, g2, g3, g4, g5, g6, g7⟩ := h
  have ec : ∀ c, c < 186 ∨ 222 ≤ c → τ c = σ c := fun c hc => e c (by omega)
  have eA : ∀ {l : List Nat}, l.all (fun c => decide (c < 186 ∨ 222 ≤ c)) = true → eqC σ τ l := fun h c hc => ec c (of_decide_eq_true (List.all_eq_true.mp h c hc))
  have hT2 : mTb τ n b := by
    have he : ∀ c, 232 ≤ c → τ c = σ c := fun c hc => ec c (by omega)
    unfold mTb mAG mpt at hT ⊢
    simp only [he 232 (by decide), he 233 (by decide), he 234 (by decide), he 235 (by decide), he 236 (by decide), he 237 (by decide), he 240 (by decide), he 242 (by decide), he 243 (by decide)]
    exact hT
  have hA2 : aT τ n := aT_c (fun c c1 c2 => ec c (by omega)) (eA (by decide)) hA
  have hmk : kMs τ K (m + 1) := by
    obtain ⟨w1, w2, w3, w4⟩ := hM
    unfold kMs
    rw [e (K + 5) (by omega), e (K + 6) (by omega), e (K + 7) (by omega)]
    refine ⟨g6, fun g hg => ?_, fun g hg => ?_, fun a ha => ?_⟩
    · obtain ⟨q, q1, q2⟩ := w2 g hg
      exact ⟨q, by omega, q2⟩
    · obtain ⟨q, q1, q2⟩ := w3 g hg
      exact ⟨q, by omega, q2⟩
    · obtain ⟨q, q1, q2⟩ := w4 a ha
      exact ⟨q, by omega, q2⟩
  have n5 : ∀ g, g < 1928 → τ (K + 5) g ≠ nI (m + 1) := fun g hg z => by
    rw [e (K + 5) (by omega)] at z
    obtain ⟨q, q1, q2⟩ := hM.2.1 g hg
    exact (nI_nm2 q1 hm).1 (q2.symm.trans z)
  have n6 : ∀ g, g < 1928 → τ (K + 6) g ≠ nI (m + 1) ∧ τ (K + 6) g ≠ -(nI (m + 1)) := fun g hg => by
    rw [e (K + 6) (by omega)]
    obtain ⟨q, q1, q2⟩ := hM.2.2.1 g hg
    obtain ⟨x1, x2, x3, x4⟩ := nI_nm2 q1 hm
    rcases q2 with q2 | q2 <;> rw [q2]
    · exact ⟨x1, x3⟩
    · exact ⟨x2, x4⟩
  have n7 : ∀ a, a < 200 → τ (K + 7) a ≠ nI (m + 1) := fun a ha z => by
    rw [e (K + 7) (by omega)] at z
    obtain ⟨q, q1, q2⟩ := hM.2.2.2 a ha
    exact (nI_nm2 q1 hm).1 (q2.symm.trans z)
  have hn := hT.1
  have hlt : ∀ g, kV n st 0 g → g < 1928 := fun g hg => by unfold kV at hg; omega
  have hno : ∀ t, ¬ rwI [] t := fun t ⟨q, q1, _⟩ => absurd q1 List.not_mem_nil
  refine ⟨⟨hK, hn, by rw [ec 1 (by decide)]; exact hct, hA2.1, ⟨Nat.zero_le _, g3, g2, aT_W hT2 hA2.1, fun g x1 x2 => by omega, fun s hs => ?_, fun t ht => absurd ht (by omega)⟩, hmk, ⟨by omega, by omega⟩, ⟨g4, fun i hi => absurd hi (Nat.not_lt_zero i), fun t ht => absurd ht (hno t), List.Pairwise.nil, fun g hg => ⟨fun z => absurd z (n5 g (hlt g hg)), fun z => absurd z (hno g)⟩, fun a ha => ⟨fun z => absurd z (n7 a (by omega)), fun ⟨t, t1, _⟩ => absurd t1 (hno t)⟩, fun t ht => absurd ht (hno t), fun g hg _ => ⟨fun z => absurd z (n6 g (hlt g hg)).1, fun z => absurd z (n6 g (hlt g hg)).2⟩⟩, fun t ht => (aT_dp hT2 hA2.1 ht).1, fun g hg _ => ⟨n5 g hg, (n6 g hg).1, (n6 g hg).2⟩⟩, hA2.2, aT_gR hT2 hA2.1⟩
  rw [g5 s hs]
  exact Or.inl ⟨rfl, fun t _ ht => absurd ht.1 (by omega)⟩
set_option maxRecDepth 100000 in
set_option maxHeartbeats 4000000 in
theorem mf_kStart (L : Nat) (xs : Nat → Int32) (d : Nat) (σ : kS) (K st n u m : Nat) (h : nB σ K st n u) (he : cKe σ K st u) (hms : σ K 12 = nI m) : kXM kT L xs (d + 2) 45 [.ref K] σ (fun r σ' => r = none ∧ ksP σ σ' K st m) := by
  obtain ⟨h1, h2, h3, h4, h5, h6⟩ := h
  have hb := isK_b h1
  unfold kXM
  have k60 : ∀ HD, (∀ s, s < 256 → HD s = -1) → ∀ g, kX kT L xs (d + 2) 45 60 [(1, .int (nI g)), (0, .ref K)] [] (va_up σ (K + 1) HD) (fun r σ' => r = none ∧ ksP σ σ' K st m) := by
    intro HD hHD g
    iterate 2 (refine kX_one rfl ?_)
    refine kX_putN rfl rfl (kT_kn h1) rfl (rfl) rfl ?_
    iterate 2 (refine kX_one rfl ?_)
    refine kX_putN rfl rfl (kT_kn h1) rfl (rfl) rfl ?_
    iterate 2 (refine kX_one rfl ?_)
    refine kX_getN rfl rfl (kT_kn h1) rfl ?_
    iterate 2 (refine kX_one rfl ?_)
    refine kX_putN rfl rfl (kT_kn h1) rfl (rfl) rfl ?_
    iterate 2 (refine kX_one rfl ?_)
    refine kX_putN rfl rfl (kT_kn h1) rfl (rfl) rfl ?_
    refine kX_ret (i := .return_) (len := 1) rfl (Or.inr rfl) rfl ⟨rfl, fun c hc => ?_, ?_, ?_, ?_, fun s hs => ?_, ?_, ?_⟩
    · rw [up_ne (by omega), up_ne (by omega), up_ne (by omega), up_ne (by omega), up_ne (by omega)]
    · simp only [up_eq]
      rw [up_ne (by omega)]
      exact h5
    · simp only [up_eq]
      rfl
    · simp only [up_eq]
      rfl
    · rw [up_ne (by omega), up_ne (by omega), up_ne (by omega), up_ne (by omega), up_eq]
      exact hHD s hs
    · simp only [up_eq]
      rw [up_ne (by omega)]
      show σ K 12 + Int32.ofInt 1 = _
      rw [hms]
      exact nI_1 _
    · simp only [up_eq]
      rfl
  have loop : ∀ q : Nat × (Nat → Int32), (st ≤ q.1 ∧ q.1 ≤ st + u ∧ ∀ s, s < 256 → q.2 s = -1 ∨ ∃ g', q.1 ≤ g' ∧ g' < st + u ∧ q.2 s = nI g' ∧ cSl (σ 2 g') (σ 3 g') (σ 4 g') = nI s) → kX kT L xs (d + 2) 45 5 [(1, .int (nI q.1)), (0, .ref K)] [] (va_up σ (K + 1) q.2) (fun r σ' => r = none ∧ ksP σ σ' K st m) := by
    refine kX_while (fun q : Nat × (Nat → Int32) => [(1, .int (nI q.1)), (0, .ref K)]) (fun q => va_up σ (K + 1) q.2) _ (fun q => st + u - q.1) ?_
    rintro ⟨g, HD⟩ ⟨i1, i2, i3⟩ ih
    dsimp only at i1 i2 i3 ih ⊢
    iterate 2 (refine kX_one rfl ?_)
    refine kX_getN rfl rfl (kT_kn h1) rfl ?_
    refine kX_top (y := nI st) (by rw [up_ne (by omega)]; exact h5) ?_
    iterate 1 (refine kX_one rfl ?_)
    refine kX_getN rfl rfl (kT_kn h1) rfl ?_
    refine kX_top (y := nI u) (by rw [up_ne (by omega)]; exact h6) ?_
    iterate 1 (refine kX_one rfl ?_)
    refine kX_top (nI_add st u) ?_
    repeat refine kX_one rfl ?_
    refine kX_if (fun q => ?_) (fun q => ?_)
    · have q := qge q g (st + u)
      refine k60 HD (fun s hs => ?_) g
      rcases i3 s hs with e | ⟨g', g1, g2, -⟩
      · exact e
      · omega
    · have q := qgeF q g (st + u)
      have hg : g < 1928 := by omega
      obtain ⟨sl, s1, s2⟩ := cSl_lt (σ 2 g) (σ 3 g) (σ 4 g)
      have eT : ∀ c, c < 13 → va_up σ (K + 1) HD c = σ c := fun c hc => up_ne (by omega)
      iterate 1 (refine kX_one rfl ?_)
      refine kX_getN rfl rfl (kT_kn h1) rfl ?_
      iterate 1 (refine kX_one rfl ?_)
      refine kX_getN rfl rfl (kT_kn h1) rfl ?_
      iterate 2 (refine kX_one rfl ?_)
      refine kX_ialdV rfl rfl (by decide) (g) (by first | rfl | decide) (hg) (congrFun (eT _ (by decide)) g) ?_
      iterate 1 (refine kX_one rfl ?_)
      refine kX_getN rfl rfl (kT_kn h1) rfl ?_
      iterate 2 (refine kX_one rfl ?_)
      refine kX_ialdV rfl rfl (by decide) (g) (by first | rfl | decide) (hg) (congrFun (eT _ (by decide)) g) ?_
      iterate 1 (refine kX_one rfl ?_)
      refine kX_getN rfl rfl (kT_kn h1) rfl ?_
      iterate 2 (refine kX_one rfl ?_)
      refine kX_ialdV rfl rfl (by decide) (g) (by first | rfl | decide) (hg) (congrFun (eT _ (by decide)) g) ?_
      refine kX_cal (mc_slot L xs d _ (σ 2 g) (σ 3 g) (σ 4 g)) rfl (Or.inr rfl) rfl rfl rfl (fun r1 σ1 q1 => ?_)
      obtain ⟨rfl, rfl⟩ := q1
      iterate 1 (refine kX_one rfl ?_)
      refine kX_iastN rfl (kT_k1 h1) (by decide) (sl) (s2) (s1) ?_
      iterate 2 (refine kX_one rfl ?_)
      have := ih (g + 1, upd HD sl (-1)) ⟨by simp only; omega, q, fun s hs => by
        simp only
        by_cases e : s = sl
        · subst e
          exact Or.inl pk_us
        · rw [pk_un e]
          rcases i3 s hs with x | ⟨g', g1, g2, g3, g4⟩
          · exact Or.inl x
          · refine Or.inr ⟨g', ?_, g2, g3, g4⟩
            have : g' ≠ g := fun z => by
              subst z
              exact e (nI_inj (g4.symm.trans s2))
            omega⟩ (by simp only; omega)
      dsimp only at this
      rw [← nI_1] at this
      refine kX_to _ _ rfl rfl rfl ?_ this
      rw [up_eq, kup_up]
      rfl
  iterate 1 (refine kX_one rfl ?_)
  refine kX_getN rfl rfl (kT_kn h1) rfl ?_
  refine kX_top (h5) ?_
  iterate 1 (refine kX_one rfl ?_)
  have := loop (st, σ (K + 1)) ⟨Nat.le_refl _, by simp only; omega, fun s hs => ?_⟩
  · dsimp only at this
    rw [kup_self] at this
    exact kX_lv _ rfl rfl rfl this
  · exact he.1 s hs
