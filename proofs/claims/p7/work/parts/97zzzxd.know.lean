/-! alike: canMake -/
theorem rI {P : Prop} {v : Int32} (h : isB P = v) : some (Value.int v) = some (Value.int (isB P)) := by rw [h]
set_option maxRecDepth 100000 in
set_option maxHeartbeats 4000000 in
theorem mf_hasPriv (L : Nat) (xs : Nat → Int32) (d : Nat) (σ : kS) (K st n u m y : Nat) (l : rwT) (h : iE σ K st n u m l) (hy : y < n) (h0 : σ 2 y = nI 0) : kXM kT L xs (d + 1) 54 [.ref K, .int (nI y)] σ (fun r σ' => r = some (.int (isB (kHp σ l y))) ∧ σ = σ') := by
  have h1 := h.1
  have hn := h.2.1
  have ho : σ 9 y = σ 238 y := (h.2.2.2.1 y hy).2.2.2.2.2.1 ((h.2.2.2.1 y hy).1.symm.trans h0)
  have hp := h.2.2.2.2.2.2.2.1.2.2.2.2.2.1 y hy
  unfold kXM
  have k44 : ¬ kHp σ l y → kX kT L xs (d + 1) 54 44 (lv_args 0 [.ref K, .int (nI y)]) [] σ (fun r σ' => r = some (.int (isB (kHp σ l y))) ∧ σ = σ') := by
    intro hq
    repeat refine kX_one rfl ?_
    refine kX_ret (i := .ireturn) (len := 1) rfl (Or.inr rfl) rfl (⟨rF hq, rfl⟩)
  have k40 : kHp σ l y → kX kT L xs (d + 1) 54 40 (lv_args 0 [.ref K, .int (nI y)]) [] σ (fun r σ' => r = some (.int (isB (kHp σ l y))) ∧ σ = σ') := by
    intro hq
    repeat refine kX_one rfl ?_
    refine kX_ret (i := .ireturn) (len := 1) rfl (Or.inr rfl) rfl (⟨rT hq, rfl⟩)
  iterate 1 (refine kX_one rfl ?_)
  repeat refine kX_one rfl ?_
  refine kX_ifF (decide_eq_false (nI_pos (by omega))) ?_
  iterate 2 (refine kX_one rfl ?_)
  refine kX_getN rfl rfl (kT_kn h1) rfl ?_
  iterate 1 (refine kX_one rfl ?_)
  refine kX_top (h.2.2.1) ?_
  repeat refine kX_one rfl ?_
  refine kX_if (fun q2 => ?_) (fun q2 => ?_)
  · have q2 := qge q2 y n
    omega
  · iterate 1 (refine kX_one rfl ?_)
    refine kX_getN rfl rfl (kT_kn h1) rfl ?_
    iterate 2 (refine kX_one rfl ?_)
    refine kX_baldN rfl rfl (by decide) (y) (by first | rfl | decide) (by omega) ?_
    repeat refine kX_one rfl ?_
    refine kX_if (fun q3 => ?_) (fun q3 => ?_)
    · exact k40 (Or.inl (ho.symm.trans (qeq q3)))
    · have q3 : σ 238 y ≠ 0 := fun z => qeqF q3 (ho.trans z)
      iterate 1 (refine kX_one rfl ?_)
      refine kX_getN rfl rfl (kT_kn h1) rfl ?_
      iterate 1 (refine kX_one rfl ?_)
      refine kX_ialdN rfl ((kT_k7 h1).1) (by decide) (y) (by first | rfl | decide) (by omega) ?_
      iterate 1 (refine kX_one rfl ?_)
      refine kX_getN rfl rfl (kT_kn h1) rfl ?_
      refine kX_top (h.2.2.2.2.2.1.1) ?_
      repeat refine kX_one rfl ?_
      refine kX_if (fun q4 => ?_) (fun q4 => ?_)
      · exact k44 (fun z => z.elim q3 (fun z => qne q4 (hp.mpr z)))
      · exact k40 (Or.inr (hp.mp (qneF q4)))
theorem nI_pm {a m : Nat} (h0 : 0 < m) (h1 : m < 2147483647) (ha : a < 2147483648) : nI a ≠ -(nI m) := by
  intro e
  have h2 : ¬ nI a < 0 := nI_pos (by omega)
  rw [e] at h2
  have : (-(nI m)).toInt = -(m : Int) := by
    rw [Int32.toInt_neg, nI_toInt (by omega)]
    rw [Int.bmod_def]
    omega
  rw [Int32.lt_iff_toInt_lt, this] at h2
  have : (0 : Int32).toInt = 0 := rfl
  omega
def cmP (σ : kS) (K st n u m : Nat) (l : rwT) (g : Nat) (r : Option Value) (σ' : kS) : Prop := r = some (.int (isB (kMk σ l g))) ∧ ∃ M, σ' = va_up σ (K + 6) M ∧ iE σ' K st n u m l
theorem up_id {σ : kS} {a : Nat} : va_up σ a (σ a) = σ := by
  funext c
  unfold va_up
  split
  · subst_vars; rfl
  · rfl
theorem kE_up {σ τ : kS} {K st : Nat} {M : Nat → Int32} (hK : isK K st) (e : τ = va_up σ (K + 6) M) : ∀ c, c < K ∨ K + 9 ≤ c → τ c = σ c := fun c hc => by rw [e]; exact up_ne (by omega)
set_option maxRecDepth 100000 in
set_option maxHeartbeats 4000000 in
theorem mf_canMake (L : Nat) (xs : Nat → Int32) (K st n u m : Nat) (l : rwT) : ∀ (f d dd : Nat) (σ : kS) (g : Nat), dd + f = 49 → kDp σ g + dd ≤ 48 → iE σ K st n u m l → kV n st u g → kGd σ g → kXM kT L xs (d + f + 2) 55 [.ref K, .int (nI g), .int (nI dd)] σ (cmP σ K st n u m l g) := by
  intro f
  induction f with
  | zero =>
    intro d dd σ g hdd hdp h hg hd
    omega
  | succ f ih =>
    intro d dd σ g hdd hdp h hg hd
    have hb := isK_b h.1
    have hgl := iE_lt h hg
    have hm := h.2.2.2.2.2.2.1
    obtain ⟨r1, r2, r3, r4, r5, r6, r7, r8⟩ := h.2.2.2.2.2.2.2.1
    have hV := iE_V h
    unfold kXM
    iterate 2 (refine kX_one rfl ?_)
    refine kX_cal (mc_kHas L xs (d + f + 1) σ K st n u (nI g) (iE_nB h)) rfl (Or.inr rfl) rfl (jcall_v rfl rfl rfl (kT_kn h.1) rfl rfl) rfl (fun r1 σ1 q1 => ?_)
    obtain ⟨rfl, rfl⟩ := q1
    repeat refine kX_one rfl ?_
    refine kX_ifF (decide_eq_false (isB_ne.mpr (by rcases hg with z | z; exact Or.inl ⟨g, z, rfl⟩; exact Or.inr ⟨g, z.1, z.2, rfl⟩))) ?_
    iterate 2 (refine kX_one rfl ?_)
    repeat refine kX_one rfl ?_
    refine kX_if (fun q2 => ?_) (fun q2 => ?_)
    · have q2 := qgt q2 dd 48
      omega
    iterate 1 (refine kX_one rfl ?_)
    refine kX_getN rfl rfl (kT_kn h.1) rfl ?_
    iterate 1 (refine kX_one rfl ?_)
    refine kX_ialdN rfl (kT_k5 h.1 (Or.inr rfl)) (by decide) (g) (by first | rfl | decide) (hgl) ?_
    iterate 1 (refine kX_one rfl ?_)
    refine kX_getN rfl rfl (kT_kn h.1) rfl ?_
    refine kX_top (h.2.2.2.2.2.1.1) ?_
    iterate 1 (refine kX_one rfl ?_)
    repeat refine kX_one rfl ?_
    refine kX_if (fun q3 => ?_) (fun q3 => ?_)
    · have q3 := qne q3
      iterate 1 (refine kX_one rfl ?_)
      refine kX_getN rfl rfl (kT_kn h.1) rfl ?_
      iterate 1 (refine kX_one rfl ?_)
      refine kX_ialdN rfl (kT_k5 h.1 (Or.inr rfl)) (by decide) (g) (by first | rfl | decide) (hgl) ?_
      iterate 1 (refine kX_one rfl ?_)
      refine kX_getN rfl rfl (kT_kn h.1) rfl ?_
      refine kX_top (h.2.2.2.2.2.1.1) ?_
      repeat refine kX_one rfl ?_
      refine kX_if (fun q4 => ?_) (fun q4 => ?_)
      · have q4 := qne q4
        have hni : ¬ rwI l g := fun z => q4 (r7 g z)
        have k224 : ∀ (τ : kS) (v : Int32) (y z : Int32), v = isB (kMk σ l g) → (∃ M, τ = va_up σ (K + 6) M) → iE τ K st n u m l → kX kT L xs (d + f + 3) 55 224 [(5, .int v), (3, .int y), (4, .int z), (0, .ref K), (1, .int (nI g)), (2, .int (nI dd))] [] τ (cmP σ K st n u m l g) := by
          intro τ v y z hv hM hP
          obtain ⟨M, hM⟩ := hM
          have eo := kE_up h.1 hM
          have hmk : kMk τ l g = kMk σ l g := kMk_c (kFr_c h.1 eo (by decide))
          have hgt : kGd τ g := by
            have hc : eqC σ τ kCl := kFr_c h.1 eo (by decide)
            unfold kGd
            rw [hc 2 (by decide), hc 3 (by decide), hc 4 (by decide)]
            exact hd
          have k262 : ∀ w : Int32, ((w = nI m ∧ kMk τ l g) ∨ (w = -(nI m) ∧ τ K 13 ≠ 0 ∧ ¬ kMk τ l g) ∨ w = τ (K + 6) g) → kX kT L xs (d + f + 3) 55 262 [(5, .int v), (3, .int y), (4, .int z), (0, .ref K), (1, .int (nI g)), (2, .int (nI dd))] [.int w, .int (nI g), .ref (K + 6)] τ (cmP σ K st n u m l g) := by
            intro w hw
            refine kX_iastN rfl (kT_k5 h.1 (Or.inr rfl)) (by decide) (g) (by first | rfl | decide) (hgl) ?_
            iterate 1 (refine kX_one rfl ?_)
            refine kX_ret (i := .ireturn) (len := 1) rfl (Or.inr rfl) (jend_b rfl (hv ▸ isB_01 _)) (⟨by rw [hv], upd (τ (K + 6)) g w, by rw [hM, kup_up], iE_mk hP hg hgt hw⟩)
          iterate 1 (refine kX_one rfl ?_)
          refine kX_getN rfl rfl (kT_kn h.1) rfl ?_
          iterate 2 (refine kX_one rfl ?_)
          repeat refine kX_one rfl ?_
          refine kX_if (fun q5 => ?_) (fun q5 => ?_)
          · have q5 : v = 0 := qeq q5
            have hno : ¬ kMk τ l g := fun z => by
              rw [hmk] at z
              rw [isB_T z] at hv
              exact absurd (hv.symm.trans q5) (by decide)
            iterate 1 (refine kX_one rfl ?_)
            refine kX_getN rfl rfl (kT_kn h.1) rfl ?_
            repeat refine kX_one rfl ?_
            refine kX_if (fun q6 => ?_) (fun q6 => ?_)
            · iterate 1 (refine kX_one rfl ?_)
              refine kX_getN rfl rfl (kT_kn h.1) rfl ?_
              iterate 1 (refine kX_one rfl ?_)
              refine kX_ialdN rfl (kT_k5 h.1 (Or.inr rfl)) (by decide) (g) (by first | rfl | decide) (hgl) ?_
              exact k262 _ (Or.inr (Or.inr rfl))
            · have q6 := qeqF q6
              iterate 1 (refine kX_one rfl ?_)
              refine kX_getN rfl rfl (kT_kn h.1) rfl ?_
              refine kX_top (hP.2.2.2.2.2.1.1) ?_
              iterate 2 (refine kX_one rfl ?_)
              exact k262 _ (Or.inr (Or.inl ⟨rfl, q6, hno⟩))
          · have q5 : v ≠ 0 := qeqF q5
            have hyes : kMk τ l g := by
              rw [hmk]
              exact isB_ne.mp (hv ▸ q5)
            iterate 1 (refine kX_one rfl ?_)
            refine kX_getN rfl rfl (kT_kn h.1) rfl ?_
            refine kX_top (hP.2.2.2.2.2.1.1) ?_
            iterate 1 (refine kX_one rfl ?_)
            exact k262 _ (Or.inl ⟨rfl, hyes⟩)
        have k224' : ∀ (v : Int32) (y z : Int32) τ, v = isB (kMk σ l g) → (∃ M, τ = va_up σ (K + 6) M) → iE τ K st n u m l → ∀ lv, nk lv = true → ([(5, .int v), (3, .int y), (4, .int z), (0, .ref K), (1, .int (nI g)), (2, .int (nI dd))] : jL).map (fun q => jl lv q.1) = ([(5, Value.int v), (3, .int y), (4, .int z), (0, .ref K), (1, .int (nI g)), (2, .int (nI dd))] : jL).map (fun q => some q.2) → kX kT L xs (d + f + 3) 55 224 lv [] τ (cmP σ K st n u m l g) := fun v y z τ hv hM hP lv hk hlv => kX_lv _ hk rfl hlv (k224 τ v y z hv hM hP)
        have hrec : ∀ τ w, (∃ M, τ = va_up σ (K + 6) M) → iE τ K st n u m l → kV n st u w → kGd σ w → kDp σ w < kDp σ g → kXM kT L xs (d + f + 2) 55 [.ref K, .int (nI w), .int (nI dd + Int32.ofInt 1)] τ (fun r σ' => r = some (.int (isB (kMk σ l w))) ∧ (∃ M, σ' = va_up σ (K + 6) M) ∧ iE σ' K st n u m l) := fun τ w hM hP hw hwd hlt => by
          obtain ⟨M, hM⟩ := hM
          have eo := kE_up h.1 hM
          have hc : eqC σ τ kCl := kFr_c h.1 eo (by decide)
          have hmk : kMk τ l w = kMk σ l w := kMk_c hc
          have := ih d (dd + 1) τ w (by omega) (by
            unfold kDp
            rw [hc 2 (by decide), hc 3 (by decide), hc 4 (by decide)]
            unfold kDp at hlt hdp
            omega) hP hw (by
            unfold kGd
            rw [hc 2 (by decide), hc 3 (by decide), hc 4 (by decide)]
            exact hwd)
          rw [← nI_1] at this
          refine kXM_mono this (fun r σ' q => ?_)
          obtain ⟨q1, M', q2, q3⟩ := q
          refine ⟨by rw [q1, hmk], ⟨M', ?_⟩, q3⟩
          rw [q2, hM, kup_up]
        have hz : ∃ M, σ = va_up σ (K + 6) M := ⟨σ (K + 6), up_id.symm⟩
        have hAG : ∀ y, y < g → kV n st u y → kAG σ n y → kGd σ y → σ 2 y = nI 0 := fun y _ _ ha hgd => by
          rcases ha.2 with e | ⟨e, -⟩
          · exact e
          · unfold kGd at hgd
            rw [tgd_0 e (by decide)] at hgd
            exact absurd rfl (of_decide_eq_true hgd)
        iterate 1 (refine kX_one rfl ?_)
        refine kX_getN rfl rfl (kT_kn h.1) rfl ?_
        iterate 2 (refine kX_one rfl ?_)
        refine kX_ialdN rfl rfl (by decide) (g) (by first | rfl | decide) (hgl) ?_
        iterate 2 (refine kX_one rfl ?_)
        refine kX_getN rfl rfl (kT_kn h.1) rfl ?_
        iterate 2 (refine kX_one rfl ?_)
        refine kX_ialdN rfl rfl (by decide) (g) (by first | rfl | decide) (hgl) ?_
        iterate 4 (refine kX_one rfl ?_)
        refine kX_getN rfl rfl (kT_kn h.1) rfl ?_
        iterate 2 (refine kX_one rfl ?_)
        refine kX_ialdN rfl rfl (by decide) (g) (by first | rfl | decide) (hgl) ?_
        rcases (hV g hg).2 with ⟨k, h3, hk, -, -⟩ | ⟨k, x, y, h3, hk, hx, hy, h4, h5, h6, h7⟩ | ⟨k, x, h3, hk, hx, hy, h4, h6⟩
        · refine kX_top (hk) ?_
          have hmm := kM_0 h hg hk h3
          have : k = 0 ∨ k = 1 ∨ k = 2 ∨ k = 3 := by omega
          rcases this with rfl | rfl | rfl | rfl
          · iterate 4 (refine kX_one rfl ?_)
            exact k224' 1 _ _ σ (isB_T (hmm.mpr (Or.inr rfl))).symm hz h _ rfl rfl
          · iterate 1 (refine kX_one rfl ?_)
            exact k224' 0 _ _ σ (isB_F (fun z => (hmm.mp z).elim hni (by decide))).symm hz h _ rfl rfl
          · iterate 1 (refine kX_one rfl ?_)
            exact k224' 0 _ _ σ (isB_F (fun z => (hmm.mp z).elim hni (by decide))).symm hz h _ rfl rfl
          · iterate 1 (refine kX_one rfl ?_)
            exact k224' 0 _ _ σ (isB_F (fun z => (hmm.mp z).elim hni (by decide))).symm hz h _ rfl rfl
        · have hd2 := hd
          unfold kGd at hd2
          rw [tgd_2 hV hk hx hy (by omega) (by omega) h4 h5 h6 h7, Bool.and_eq_true] at hd2
          have hdx := tdp_2 hV hk hx hy (by omega) (by omega) h4 h5 h6 h7
          have hdx1 : kDp σ x < kDp σ g := by unfold kDp; omega
          have hdy1 : kDp σ y < kDp σ g := by unfold kDp; omega
          have hxl := iE_lt h h6
          have hyl := iE_lt h h7
          refine kX_top (hk) ?_
          have k138 : (kMk σ l g ↔ rwI l g ∨ (kMk σ l x ∧ kMk σ l y)) → kX kT L xs (d + f + 3) 55 138 [(5, .int 0), (3, .int (σ 3 g)), (4, .int (σ 4 g)), (0, .ref K), (1, .int (nI g)), (2, .int (nI dd))] [] σ (cmP σ K st n u m l g) := by
            intro hmm
            iterate 2 (refine kX_one rfl ?_)
            refine kX_top (hx) ?_
            iterate 3 (refine kX_one rfl ?_)
            refine kX_cal (hrec σ x hz h h6 hd2.1 hdx1) rfl (Or.inr rfl) rfl (jcall_v rfl rfl rfl (kT_kn h.1) rfl rfl) rfl (fun r1 σ1 q1 => ?_)
            obtain ⟨rfl, hM1, hP1⟩ := q1
            repeat refine kX_one rfl ?_
            refine kX_if (fun q5 => ?_) (fun q5 => ?_)
            · have q5 : ¬ kMk σ l x := fun z => isB_ne.mpr z (qeq q5)
              iterate 3 (refine kX_one rfl ?_)
              exact k224' 0 _ _ σ1 (isB_F (fun z => (hmm.mp z).elim hni (fun z => q5 z.1))).symm hM1 hP1 _ rfl rfl
            · have q5 : kMk σ l x := isB_ne.mp (qeqF q5)
              iterate 2 (refine kX_one rfl ?_)
              refine kX_top (hy) ?_
              iterate 3 (refine kX_one rfl ?_)
              refine kX_cal (hrec σ1 y hM1 hP1 h7 hd2.2 hdy1) rfl (Or.inr rfl) rfl (jcall_v rfl rfl rfl (kT_kn h.1) rfl rfl) rfl (fun r1 σ1 q1 => ?_)
              obtain ⟨rfl, hM2, hP2⟩ := q1
              repeat refine kX_one rfl ?_
              refine kX_if (fun q6 => ?_) (fun q6 => ?_)
              · have q6 : ¬ kMk σ l y := fun z => isB_ne.mpr z (qeq q6)
                iterate 3 (refine kX_one rfl ?_)
                exact k224' 0 _ _ _ (isB_F (fun z => (hmm.mp z).elim hni (fun z => q6 z.2))).symm hM2 hP2 _ rfl rfl
              · have q6 : kMk σ l y := isB_ne.mp (qeqF q6)
                iterate 4 (refine kX_one rfl ?_)
                exact k224' 1 _ _ _ (isB_T (hmm.mpr (Or.inr ⟨q5, q6⟩))).symm hM2 hP2 _ rfl rfl
          rcases h3 with rfl | rfl | ⟨rfl | rfl, ha⟩
          · iterate 1 (refine kX_one rfl ?_)
            exact kX_lv _ rfl rfl rfl (k138 (kM_4 h hg hk hx hy h4 h5 h6 h7 (Or.inl rfl)))
          · iterate 1 (refine kX_one rfl ?_)
            exact kX_lv _ rfl rfl rfl (k138 (kM_4 h hg hk hx hy h4 h5 h6 h7 (Or.inr rfl)))
          · have hmm := kM_6 h hg hk hx hy h4 h5 h6 h7
            iterate 3 (refine kX_one rfl ?_)
            refine kX_top (hx) ?_
            iterate 3 (refine kX_one rfl ?_)
            refine kX_cal (hrec σ x hz h h6 hd2.1 hdx1) rfl (Or.inr rfl) rfl (jcall_v rfl rfl rfl (kT_kn h.1) rfl rfl) rfl (fun r1 σ1 q1 => ?_)
            obtain ⟨rfl, hM1, hP1⟩ := q1
            iterate 2 (refine kX_one rfl ?_)
            exact k224' _ _ _ σ1 (isB_iff ⟨fun z => hmm.mpr (Or.inr z), fun z => (hmm.mp z).elim (fun z => absurd z hni) id⟩) hM1 hP1 _ rfl rfl
          · have hy0 := hAG y h5 h7 ha hd2.2
            have hmm := kM_8 h hg hk hx hy h4 h5 h6 h7 hy0
            iterate 3 (refine kX_one rfl ?_)
            refine kX_top (hy) ?_
            refine kX_cal (mf_hasPriv L xs (d + f + 1) σ K st n u m y l h ha.1 hy0) rfl (Or.inr rfl) rfl (jcall_v rfl rfl rfl (kT_kn h.1) rfl rfl) rfl (fun r1 σ1 q1 => ?_)
            obtain ⟨rfl, rfl⟩ := q1
            repeat refine kX_one rfl ?_
            refine kX_if (fun q5 => ?_) (fun q5 => ?_)
            · have q5 : ¬ kHp σ l y := fun z => isB_ne.mpr z (qeq q5)
              iterate 3 (refine kX_one rfl ?_)
              exact k224' 0 _ _ σ (isB_F (fun z => (hmm.mp z).elim hni (fun z => q5 z.2))).symm hz h _ rfl rfl
            · have q5 : kHp σ l y := isB_ne.mp (qeqF q5)
              iterate 2 (refine kX_one rfl ?_)
              refine kX_top (hx) ?_
              iterate 3 (refine kX_one rfl ?_)
              refine kX_cal (hrec σ x hz h h6 hd2.1 hdx1) rfl (Or.inr rfl) rfl (jcall_v rfl rfl rfl (kT_kn h.1) rfl rfl) rfl (fun r1 σ1 q1 => ?_)
              obtain ⟨rfl, hM2, hP2⟩ := q1
              repeat refine kX_one rfl ?_
              refine kX_if (fun q6 => ?_) (fun q6 => ?_)
              · have q6 : ¬ kMk σ l x := fun z => isB_ne.mpr z (qeq q6)
                iterate 3 (refine kX_one rfl ?_)
                exact k224' 0 _ _ _ (isB_F (fun z => (hmm.mp z).elim hni (fun z => q6 z.1))).symm hM2 hP2 _ rfl rfl
              · have q6 : kMk σ l x := isB_ne.mp (qeqF q6)
                iterate 4 (refine kX_one rfl ?_)
                exact k224' 1 _ _ _ (isB_T (hmm.mpr (Or.inr ⟨q6, q5⟩))).symm hM2 hP2 _ rfl rfl
        · have hd2 := hd
          unfold kGd at hd2
          rw [tgd_1 hV hk hx hy (by omega) (by omega) h4 h6] at hd2
          have hdx := tdp_1 hV hk hx hy (by omega) (by omega) h4 h6
          have hdx1 : kDp σ x < kDp σ g := by unfold kDp; omega
          have hxl := iE_lt h h6
          refine kX_top (hk) ?_
          rcases h3 with rfl | ⟨rfl, ha⟩
          · have hmm := kM_9 h hg hk hx hy h4 h6
            iterate 3 (refine kX_one rfl ?_)
            refine kX_top (hx) ?_
            iterate 3 (refine kX_one rfl ?_)
            refine kX_cal (hrec σ x hz h h6 hd2 hdx1) rfl (Or.inr rfl) rfl (jcall_v rfl rfl rfl (kT_kn h.1) rfl rfl) rfl (fun r1 σ1 q1 => ?_)
            obtain ⟨rfl, hM1, hP1⟩ := q1
            iterate 2 (refine kX_one rfl ?_)
            exact k224' _ _ _ σ1 (isB_iff ⟨fun z => hmm.mpr (Or.inr z), fun z => (hmm.mp z).elim (fun z => absurd z hni) id⟩) hM1 hP1 _ rfl rfl
          · have hx0 := hAG x h4 h6 ha hd2
            have hmm := kM_7 h hg hk hx hy h4 h6 hx0
            iterate 3 (refine kX_one rfl ?_)
            refine kX_top (hx) ?_
            refine kX_cal (mf_hasPriv L xs (d + f + 1) σ K st n u m x l h ha.1 hx0) rfl (Or.inr rfl) rfl (jcall_v rfl rfl rfl (kT_kn h.1) rfl rfl) rfl (fun r1 σ1 q1 => ?_)
            obtain ⟨rfl, rfl⟩ := q1
            iterate 2 (refine kX_one rfl ?_)
            exact k224' _ _ _ σ (isB_iff ⟨fun z => hmm.mpr (Or.inr z), fun z => (hmm.mp z).elim (fun z => absurd z hni) id⟩) hz h _ rfl rfl
      · have q4 := qneF q4
        repeat refine kX_one rfl ?_
        refine kX_ret (i := .ireturn) (len := 1) rfl (Or.inr rfl) rfl (⟨rT ((r8 g hg hd).1 q4), σ (K + 6), up_id.symm, h⟩)
    · have q3 := qneF q3
      have hno := ((r8 g hg hd).2 q3).2
      repeat refine kX_one rfl ?_
      refine kX_ret (i := .ireturn) (len := 1) rfl (Or.inr rfl) rfl (⟨rF hno, σ (K + 6), up_id.symm, h⟩)
