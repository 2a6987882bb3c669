section
/-! alike: canMake -/
set_option maxRecDepth 100000 in
set_option maxHeartbeats 4000000 in
theorem mf_hasPriv (L : Nat) (xs : Nat → Int32) (d : Nat) (σ : kS) (K st n u m y : Nat) (l : rwT) (h : iE σ K st n u m l) (hy : y < n) (h0 : σ 2 y = nI 0) : kXM kT L xs (d + 1) 54 [.ref K, .int (nI y)] σ (fun r σ' => r = some (.int (isB (kHp σ l y))) ∧ σ = σ') := by
  have h1 := h.1
  have hn := h.2.1
  have ho : σ 9 y = σ 238 y := (h.2.2.2.1 y hy).2.2.2.2.2.1 ((h.2.2.2.1 y hy).1.symm.trans h0)
  have hp := h.2.2.2.2.2.2.2.1.2.2.2.2.2.1 y hy
  unfold kXM
  have k44 : ¬ kHp σ l y → kX kT L xs (d + 1) 54 44 (lv_args 0 [.ref K, .int (nI y)]) [] σ (fun r σ' => r = some (.int (isB (kHp σ l y))) ∧ σ = σ') := by
    intro hq
    repeat refine kX_one rfl ?_
    refine kX_ret (i := .ireturn) (len := 1) rfl (Or.inr rfl) rfl (⟨rF hq, rfl⟩)
  have k40 : kHp σ l y → kX kT L xs (d + 1) 54 40 (lv_args 0 [.ref K, .int (nI y)]) [] σ (fun r σ' => r = some (.int (isB (kHp σ l y))) ∧ σ = σ') := by
    intro hq
    repeat refine kX_one rfl ?_
    refine kX_ret (i := .ireturn) (len := 1) rfl (Or.inr rfl) rfl (⟨rT hq, rfl⟩)
  iterate 1 (refine kX_one rfl ?_)
  repeat refine kX_one rfl ?_
  refine kX_ifF (decide_eq_false (nI_pos (by omega))) ?_
  iterate 2 (refine kX_one rfl ?_)
  refine kX_getN rfl rfl (kT_kn h1) rfl ?_
  iterate 1 (refine kX_one rfl ?_)
  refine kX_top (h.2.2.1) ?_
  repeat refine kX_one rfl ?_
  refine kX_if (fun q2 => ?_) (fun q2 => ?_)
  · have q2 := qge q2 y n
    omega
  · iterate 1 (refine kX_one rfl ?_)
    refine kX_getN rfl rfl (kT_kn h1) rfl ?_
    iterate 2 (refine kX_one rfl ?_)
    refine kX_baldN rfl rfl (by decide) (y) (by first | rfl | decide) (by omega) ?_
    repeat refine kX_one rfl ?_
    refine kX_if (fun q3 => ?_) (fun q3 => ?_)
    · exact k40 (Or.inl (ho.symm.trans (qeq q3)))
    · have q3 : σ 238 y ≠ 0 := fun z => qeqF q3 (ho.trans z)
      iterate 1 (refine kX_one rfl ?_)
      refine kX_getN rfl rfl (kT_kn h1) rfl ?_
      iterate 1 (refine kX_one rfl ?_)
      refine kX_ialdN rfl ((kT_k7 h1).1) (by decide) (y) (by first | rfl | decide) (by omega) ?_
      iterate 1 (refine kX_one rfl ?_)
      refine kX_getN rfl rfl (kT_kn h1) rfl ?_
      refine kX_top (h.2.2.2.2.2.1.1) ?_
      repeat refine kX_one rfl ?_
      refine kX_if (fun q4 => ?_) (fun q4 => ?_)
      · exact k44 (fun z => z.elim q3 (fun z => qne q4 (hp.mpr z)))
      · exact k40 (Or.inr (hp.mp (qneF q4)))
def cmP (σ : kS) (K st n u m : Nat) (l : rwT) (g : Nat) (r : Option Value) (σ' : kS) : Prop := r = some (.int (isB (kMk σ l g))) ∧ ∃ M, σ' = va_up σ (K + 6) M ∧ iE σ' K st n u m l
theorem up_id {σ : kS} {a : Nat} : va_up σ a (σ a) = σ := by
  funext c
  unfold va_up
  split
  · subst_vars; rfl
  · rfl
theorem kE_up {σ τ : kS} {K st : Nat} {M : Nat → Int32} (hK : isK K st) (e : τ = va_up σ (K + 6) M) : ∀ c, c < K ∨ K + 9 ≤ c → τ c = σ c := fun c hc => by rw [e]; exact up_ne (by omega)
set_option maxRecDepth 100000 in
set_option maxHeartbeats 4000000 in
theorem mf_canMake (L : Nat) (xs : Nat → Int32) (K st n u m : Nat) (l : rwT) : ∀ (f d dd : Nat) (σ : kS) (g : Nat), dd + f = 49 → kDp σ g + dd ≤ 48 → iE σ K st n u m l → kV n st u g → kGd σ g → kXM kT L xs (d + f + 2) 55 [.ref K, .int (nI g), .int (nI dd)] σ (cmP σ K st n u m l g) := by
  intro f
  induction f with
  | zero =>
    intro d dd σ g hdd hdp h hg hd
    omega
  | succ f ih =>
    intro d dd σ g hdd hdp h hg hd
    have hb := isK_b h.1
    have hgl := iE_lt h hg
    have hm := h.2.2.2.2.2.2.1
    obtain ⟨r1, r2, r3, r4, r5, r6, r7, r8⟩ := h.2.2.2.2.2.2.2.1
    have hV := iE_V h
    unfold kXM
    iterate 2 (refine kX_one rfl ?_)
    refine kX_cal (mc_kHas L xs (d + f + 1) σ K st n u (nI g) (iE_nB h)) rfl (Or.inr rfl) rfl (jcall_v rfl rfl rfl (kT_kn h.1) rfl rfl) rfl (fun r1 σ1 q1 => ?_)
    obtain ⟨rfl, rfl⟩ := q1
    repeat refine kX_one rfl ?_
    refine kX_ifF (decide_eq_false (isB_ne.mpr (by rcases hg with z | z; exact Or.inl ⟨g, z, rfl⟩; exact Or.inr ⟨g, z.1, z.2, rfl⟩))) ?_
    iterate 2 (refine kX_one rfl ?_)
    repeat refine kX_one rfl ?_
    refine kX_if (fun q2 => ?_) (fun q2 => ?_)
    · have q2 := qgt q2 dd 48
      omega
    iterate 1 (refine kX_one rfl ?_)
    refine kX_getN rfl rfl (kT_kn h.1) rfl ?_
    iterate 1 (refine kX_one rfl ?_)
    refine kX_ialdN rfl (kT_k5 h.1 (Or.inr rfl)) (by decide) (g) (by first | rfl | decide) (hgl) ?_
    iterate 1 (refine kX_one rfl ?_)
    refine kX_getN rfl rfl (kT_kn h.1) rfl ?_
    refine kX_top (h.2.2.2.2.2.1.1) ?_
    iterate 1 (refine kX_one rfl ?_)
    repeat refine kX_one rfl ?_
    refine kX_if (fun q3 => ?_) (fun q3 => ?_)
    · have q3 := qne q3
      iterate 1 (refine kX_one rfl ?_)
      refine kX_getN rfl rfl (kT_kn h.1) rfl ?_
      iterate 1 (refine kX_one rfl ?_)
      refine kX_ialdN rfl (kT_k5 h.1 (Or.inr rfl)) (by decide) (g) (by first | rfl | decide) (hgl) ?_
      iterate 1 (refine kX_one rfl ?_)
      refine kX_getN rfl rfl (kT_kn h.1) rfl ?_
      refine kX_top (h.2.2.2.2.2.1.1) ?_
      repeat refine kX_one rfl ?_
      refine kX_if (fun q4 => ?_) (fun q4 => ?_)
      · have q4 := qne q4
        have hni : ¬ rwI l g := fun z => q4 (r7 g z)
        have k224 : ∀ (τ : kS) (v : Int32) (y z : Int32), v = isB (kMk σ l g) → (∃ M, τ = va_up σ (K + 6) M) → iE τ K st n u m l → kX kT L xs (d + f + 3) 55 224 [(5, .int v), (3, .int y), (4, .int z), (0, .ref K), (1, .int (nI g)), (2, .int (nI dd))] [] τ (cmP σ K st n u m l g) := by
          intro τ v y z hv hM hP
          obtain ⟨M, hM⟩ := hM
          have eo := kE_up h.1 hM
          have hmk : kMk τ l g = kMk σ l g := kMk_c (kFr_c h.1 eo (by decide))
          have hgt : kGd τ g := by
            have hc : eqC σ τ kCl := kFr_c h.1 eo (by decide)
            unfold kGd
            rw [hc 2 (by decide), hc 3 (by decide), hc 4 (by decide)]
            exact hd
          have k262 : ∀ w : Int32, ((w = nI m ∧ kMk τ l g) ∨ (w = -(nI m) ∧ τ K 13 ≠ 0 ∧ ¬ kMk τ l g) ∨ w = τ (K + 6) g) → kX kT L xs (d + f + 3) 55 262 [(5, .int v), (3, .int y), (4, .int z), (0, .ref K), (1, .int (nI g)), (2, .int (nI dd))] [.int w, .int (nI g), .ref (K + 6)] τ (cmP σ K st n u m l g) := by
            intro w hw
            refine kX_iastN rfl (kT_k5 h.1 (Or.inr rfl)) (by decide) (g) (by first | rfl | decide) (hgl) ?_
            iterate 1 (refine kX_one rfl ?_)
            refine kX_ret (i := .ireturn) (len := 1) rfl (Or.inr rfl) (jend_b rfl (hv ▸ isB_01 _)) (⟨by rw [hv], upd (τ (K + 6)) g w, by rw [hM, kup_up], iE_mk hP hg hgt hw⟩)
          iterate 1 (refine kX_one rfl ?_)
          refine kX_getN rfl rfl (kT_kn h.1) rfl ?_
          iterate 2 (refine kX_one rfl ?_)
          repeat refine kX_one rfl ?_
          refine kX_if (fun q5 => ?_) (fun q5 => ?_)
          · have q5 : v = 0 := qeq q5
            have hno : ¬ kMk τ l g := fun z => by
              rw [hmk] at z
              rw [isB_T z] at hv
              exact absurd (hv.symm.trans q5) (by decide)
            iterate 1 (refine kX_one rfl ?_)
            refine kX_getN rfl rfl (kT_kn h.1) rfl ?_
            repeat refine kX_one rfl ?_
            refine kX_if (fun q6 => ?_) (fun q6 => ?_)
            · iterate 1 (refine kX_one rfl ?_)
              refine kX_getN rfl rfl (kT_kn h.1) rfl ?_
              iterate 1 (refine kX_one rfl ?_)
              refine kX_ialdN rfl (kT_k5 h.1 (Or.inr rfl)) (by decide) (g) (by first | rfl | decide) (hgl) ?_
              exact k262 _ (Or.inr (Or.inr rfl))
            · have q6 := qeqF q6
              iterate 1 (refine kX_one rfl ?_)
              refine kX_getN rfl rfl (kT_kn h.1) rfl ?_
              refine kX_top (hP.2.2.2.2.2.1.1) ?_
              iterate 2 (refine kX_one rfl ?_)
              exact k262 _ (Or.inr (Or.inl ⟨rfl, q6, hno⟩))
          · have q5 : v ≠ 0 := qeqF q5
            have hyes : kMk τ l g := by
              rw [hmk]
              exact isB_ne.mp (hv ▸ q5)
            iterate 1 (refine kX_one rfl ?_)
            refine kX_getN rfl rfl (kT_kn h.1) rfl ?_
            refine kX_top (hP.2.2.2.2.2.1.1) ?_
            iterate 1 (refine kX_one rfl ?_)
            exact k262 _ (Or.inl ⟨rfl, hyes⟩)
        have k224' : ∀ (v : Int32) (y z : Int32) τ, v = isB (kMk σ l g) → (∃ M, τ = va_up σ (K + 6) M) → iE τ K st n u m l → ∀ lv, nk lv = true → ([(5, .int v), (3, .int y), (4, .int z), (0, .ref K), (1, .int (nI g)), (2, .int (nI dd))] : jL).map (fun q => jl lv q.1) = ([(5, Value.int v), (3, .int y), (4, .int z), (0, .ref K), (1, .int (nI g)), (2, .int (nI dd))] : jL).map (fun q => some q.2) → kX kT L xs (d + f + 3) 55 224 lv [] τ (cmP σ K st n u m l g) := fun v y z τ hv hM hP lv hk hlv => kX_lv _ hk rfl hlv (k224 τ v y z hv hM hP)
        have hrec : ∀ τ w, (∃ M, τ = va_up σ (K + 6) M) → iE τ K st n u m l → kV n st u w → kGd σ w → kDp σ w < kDp σ g → kXM kT L xs (d + f + 2) 55 [.ref K, .int (nI w), .int (nI dd + Int32.ofInt 1)] τ (fun r σ' => r = some (.int (isB (kMk σ l w))) ∧ (∃ M, σ' = va_up σ (K + 6) M) ∧ iE σ' K st n u m l) := fun τ w hM hP hw hwd hlt => by
          obtain ⟨M, hM⟩ := hM
          have eo := kE_up h.1 hM
          have hc : eqC σ τ kCl := kFr_c h.1 eo (by decide)
          have hmk : kMk τ l w = kMk σ l w := kMk_c hc
          have := ih d (dd + 1) τ w (by omega) (by
            unfold kDp
            rw [hc 2 (by decide), hc 3 (by decide), hc 4 (by decide)]
            unfold kDp at hlt hdp
            omega) hP hw (by
            unfold kGd
            rw [hc 2 (by decide), hc 3 (by decide), hc 4 (by decide)]
            exact hwd)
          rw [← nI_1] at this
          refine kXM_mono this (fun r σ' q => ?_)
          obtain ⟨q1, M', q2, q3⟩ := q
          refine ⟨by rw [q1, hmk], ⟨M', ?_⟩, q3⟩
          rw [q2, hM, kup_up]
        have hz : ∃ M, σ = va_up σ (K + 6) M := ⟨σ (K + 6), up_id.symm⟩
        have hAG : ∀ y, y < g → kV n st u y → kAG σ n y → kGd σ y → σ 2 y = nI 0 := fun y _ _ ha hgd => by
          rcases ha.2 with e | ⟨e, -⟩
          · exact e
          · unfold kGd at hgd
            rw [tgd_0 e (by decide)] at hgd
            exact absurd rfl (of_decide_eq_true hgd)
        iterate 1 (refine kX_one rfl ?_)
        refine kX_getN rfl rfl (kT_kn h.1) rfl ?_
        iterate 2 (refine kX_one rfl ?_)
        refine kX_ialdN rfl rfl (by decide) (g) (by first | rfl | decide) (hgl) ?_
        iterate 2 (refine kX_one rfl ?_)
        refine kX_getN rfl rfl (kT_kn h.1) rfl ?_
        iterate 2 (refine kX_one rfl ?_)
        refine kX_ialdN rfl rfl (by decide) (g) (by first | rfl | decide) (hgl) ?_
        iterate 4 (refine kX_one rfl ?_)
        refine kX_getN rfl rfl (kT_kn h.1) rfl ?_
        iterate 2 (refine kX_one rfl ?_)
        refine kX_ialdN rfl rfl (by decide) (g) (by first | rfl | decide) (hgl) ?_
        rcases (hV g hg).2 with ⟨k, h3, hk, -, -⟩ | ⟨k, x, y, h3, hk, hx, hy, h4, h5, h6, h7⟩ | ⟨k, x, h3, hk, hx, hy, h4, h6⟩
        · refine kX_top (hk) ?_
          have hmm := kM_0 h hg hk h3
          have : k = 0 ∨ k = 1 ∨ k = 2 ∨ k = 3 := by omega
          rcases this with rfl | rfl | rfl | rfl
          · iterate 4 (refine kX_one rfl ?_)
            exact k224' 1 _ _ σ (isB_T (hmm.mpr (Or.inr rfl))).symm hz h _ rfl rfl
          · iterate 1 (refine kX_one rfl ?_)
            exact k224' 0 _ _ σ (isB_F (fun z => (hmm.mp z).elim hni (by decide))).symm hz h _ rfl rfl
          · iterate 1 (refine kX_one rfl ?_)
            exact k224' 0 _ _ σ (isB_F (fun z => (hmm.mp z).elim hni (by decide))).symm hz h _ rfl rfl
          · iterate 1 (refine kX_one rfl ?_)
            exact k224' 0 _ _ σ (isB_F (fun z => (hmm.mp z).elim hni (by decide))).symm hz h _ rfl rfl
        · have hd2 := hd
          unfold kGd at hd2
          rw [tgd_2 hV hk hx hy (by omega) (by omega) h4 h5 h6 h7, Bool.and_eq_true] at hd2
          have hdx := tdp_2 hV hk hx hy (by omega) (by omega) h4 h5 h6 h7
          have hdx1 : kDp σ x < kDp σ g := by unfold kDp; omega
          have hdy1 : kDp σ y < kDp σ g := by unfold kDp; omega
          have hxl := iE_lt h h6
          have hyl := iE_lt h h7
          refine kX_top (hk) ?_
          have k138 : (kMk σ l g ↔ rwI l g ∨ (kMk σ l x ∧ kMk σ l y)) → kX kT L xs (d + f + 3) 55 138 [(5, .int 0), (3, .int (σ 3 g)), (4, .int (σ 4 g)), (0, .ref K), (1, .int (nI g)), (2, .int (nI dd))] [] σ (cmP σ K st n u m l g) := by
            intro hmm
            iterate 2 (refine kX_one rfl ?_)
            refine kX_top (hx) ?_
            iterate 3 (refine kX_one rfl ?_)
            refine kX_cal (hrec σ x hz h h6 hd2.1 hdx1) rfl (Or.inr rfl) rfl (jcall_v rfl rfl rfl (kT_kn h.1) rfl rfl) rfl (fun r1 σ1 q1 => ?_)
            obtain ⟨rfl, hM1, hP1⟩ := q1
            repeat refine kX_one rfl ?_
            refine kX_if (fun q5 => ?_) (fun q5 => ?_)
            · have q5 : ¬ kMk σ l x := fun z => isB_ne.mpr z (qeq q5)
              iterate 3 (refine kX_one rfl ?_)
              exact k224' 0 _ _ σ1 (isB_F (fun z => (hmm.mp z).elim hni (fun z => q5 z.1))).symm hM1 hP1 _ rfl rfl
            · have q5 : kMk σ l x := isB_ne.mp (qeqF q5)
              iterate 2 (refine kX_one rfl ?_)
              refine kX_top (hy) ?_
              iterate 3 (refine kX_one rfl ?_)
              refine kX_cal (hrec σ1 y hM1 hP1 h7 hd2.2 hdy1) rfl (Or.inr rfl) rfl (jcall_v rfl rfl rfl (kT_kn h.1) rfl rfl) rfl (fun r1 σ1 q1 => ?_)
              obtain ⟨rfl, hM2, hP2⟩ := q1
              repeat refine kX_one rfl ?_
              refine kX_if (fun q6 => ?_) (fun q6 => ?_)
              · have q6 : ¬ kMk σ l y := fun z => isB_ne.mpr z (qeq q6)
                iterate 3 (refine kX_one rfl ?_)
                exact k224' 0 _ _ _ (isB_F (fun z => (hmm.mp z).elim hni (fun z => q6 z.2))).symm hM2 hP2 _ rfl rfl
              · have q6 : kMk σ l y := isB_ne.mp (qeqF q6)
                iterate 4 (refine kX_one rfl ?_)
                exact k224' 1 _ _ _ (isB_T (hmm.mpr (Or.inr ⟨q5, q6⟩))).symm hM2 hP2 _ rfl rfl
          rcases h3 with rfl | rfl | ⟨rfl | rfl, ha⟩
          · iterate 1 (refine kX_one rfl ?_)
            exact kX_lv _ rfl rfl rfl (k138 (kM_4 h hg hk hx hy h4 h5 h6 h7 (Or.inl rfl)))
          · iterate 1 (refine kX_one rfl ?_)
            exact kX_lv _ rfl rfl rfl (k138 (kM_4 h hg hk hx hy h4 h5 h6 h7 (Or.inr rfl)))
          · have hmm := kM_6 h hg hk hx hy h4 h5 h6 h7
            iterate 3 (refine kX_one rfl ?_)
            refine kX_top (hx) ?_
            iterate 3 (refine kX_one rfl ?_)
            refine kX_cal (hrec σ x hz h h6 hd2.1 hdx1) rfl (Or.inr rfl) rfl (jcall_v rfl rfl rfl (kT_kn h.1) rfl rfl) rfl (fun r1 σ1 q1 => ?_)
            obtain ⟨rfl, hM1, hP1⟩ := q1
            iterate 2 (refine kX_one rfl ?_)
            exact k224' _ _ _ σ1 (isB_iff ⟨fun z => hmm.mpr (Or.inr z), fun z => (hmm.mp z).elim (fun z => absurd z hni) id⟩) hM1 hP1 _ rfl rfl
          · have hy0 := hAG y h5 h7 ha hd2.2
            have hmm := kM_8 h hg hk hx hy h4 h5 h6 h7 hy0
            iterate 3 (refine kX_one rfl ?_)
            refine kX_top (hy) ?_
            refine kX_cal (mf_hasPriv L xs (d + f + 1) σ K st n u m y l h ha.1 hy0) rfl (Or.inr rfl) rfl (jcall_v rfl rfl rfl (kT_kn h.1) rfl rfl) rfl (fun r1 σ1 q1 => ?_)
            obtain ⟨rfl, rfl⟩ := q1
            repeat refine kX_one rfl ?_
            refine kX_if (fun q5 => ?_) (fun q5 => ?_)
            · have q5 : ¬ kHp σ l y := fun z => isB_ne.mpr z (qeq q5)
              iterate 3 (refine kX_one rfl ?_)
              exact k224' 0 _ _ σ (isB_F (fun z => (hmm.mp z).elim hni (fun z => q5 z.2))).symm hz h _ rfl rfl
            · have q5 : kHp σ l y := isB_ne.mp (qeqF q5)
              iterate 2 (refine kX_one rfl ?_)
              refine kX_top (hx) ?_
              iterate 3 (refine kX_one rfl ?_)
              refine kX_cal (hrec σ x hz h h6 hd2.1 hdx1) rfl (Or.inr rfl) rfl (jcall_v rfl rfl rfl (kT_kn h.1) rfl rfl) rfl (fun r1 σ1 q1 => ?_)
              obtain ⟨rfl, hM2, hP2⟩ := q1
              repeat refine kX_one rfl ?_
              refine kX_if (fun q6 => ?_) (fun q6 => ?_)
              · have q6 : ¬ kMk σ l x := fun z => isB_ne.mpr z (qeq q6)
                iterate 3 (refine kX_one rfl ?_)
                exact k224' 0 _ _ _ (isB_F (fun z => (hmm.mp z).elim hni (fun z => q6 z.1))).symm hM2 hP2 _ rfl rfl
              · have q6 : kMk σ l x := isB_ne.mp (qeqF q6)
                iterate 4 (refine kX_one rfl ?_)
                exact k224' 1 _ _ _ (isB_T (hmm.mpr (Or.inr ⟨q6, q5⟩))).symm hM2 hP2 _ rfl rfl
        · have hd2 := hd
          unfold kGd at hd2
          rw [tgd_1 hV hk hx hy (by omega) (by omega) h4 h6] at hd2
          have hdx := tdp_1 hV hk hx hy (by omega) (by omega) h4 h6
          have hdx1 : kDp σ x < kDp σ g := by unfold kDp; omega
          have hxl := iE_lt h h6
          refine kX_top (hk) ?_
          rcases h3 with rfl | ⟨rfl, ha⟩
          · have hmm := kM_9 h hg hk hx hy h4 h6
            iterate 3 (refine kX_one rfl ?_)
            refine kX_top (hx) ?_
            iterate 3 (refine kX_one rfl ?_)
            refine kX_cal (hrec σ x hz h h6 hd2 hdx1) rfl (Or.inr rfl) rfl (jcall_v rfl rfl rfl (kT_kn h.1) rfl rfl) rfl (fun r1 σ1 q1 => ?_)
            obtain ⟨rfl, hM1, hP1⟩ := q1
            iterate 2 (refine kX_one rfl ?_)
            exact k224' _ _ _ σ1 (isB_iff ⟨fun z => hmm.mpr (Or.inr z), fun z => (hmm.mp z).elim (fun z => absurd z hni) id⟩) hM1 hP1 _ rfl rfl
          · have hx0 := hAG x h4 h6 ha hd2
            have hmm := kM_7 h hg hk hx hy h4 h6 hx0
            iterate 3 (refine kX_one rfl ?_)
            refine kX_top (hx) ?_
            refine kX_cal (mf_hasPriv L xs (d + f + 1) σ K st n u m x l h ha.1 hx0) rfl (Or.inr rfl) rfl (jcall_v rfl rfl rfl (kT_kn h.1) rfl rfl) rfl (fun r1 σ1 q1 => ?_)
            obtain ⟨rfl, rfl⟩ := q1
            iterate 2 (refine kX_one rfl ?_)
            exact k224' _ _ _ σ (isB_iff ⟨fun z => hmm.mpr (Or.inr z), fun z => (hmm.mp z).elim (fun z => absurd z hni) id⟩) hz h _ rfl rfl
      · have q4 := qneF q4
        repeat refine kX_one rfl ?_
        refine kX_ret (i := .ireturn) (len := 1) rfl (Or.inr rfl) rfl (⟨rT ((r8 g hg hd).1 q4), σ (K + 6), up_id.symm, h⟩)
    · have q3 := qneF q3
      have hno := ((r8 g hg hd).2 q3).2
      repeat refine kX_one rfl ?_
      refine kX_ret (i := .ireturn) (len := 1) rfl (Or.inr rfl) rfl (⟨rF hno, σ (K + 6), up_id.symm, h⟩)
end
section
/-! alike: add -/
theorem vmk_mono {R R' : Jvm.Term → Prop} {A : Nat → Prop} {H : Nat → Int32} (h : ∀ g, R g → R' g) : ∀ g, vmk R A H g → vmk R' A H g := by
  intro g
  induction g with
  | arg t => exact fun q => q.imp (h _) id
  | add a b iha ihb => exact fun q => q.imp (h _) (fun z => ⟨iha z.1, ihb z.2⟩)
  | sub a b iha ihb => exact fun q => q.imp (h _) (fun z => ⟨iha z.1, ihb z.2⟩)
  | mul a b iha ihb => exact fun q => q.imp (h _) iha
  | sum a iha => exact fun q => q.imp (h _) iha
  | length a iha => exact fun q => q.imp (h _) id
  | div a b iha ihb => exact fun q => q.imp (h _) (fun z => ⟨iha z.1, z.2.imp id (h _)⟩)
  | _ => exact fun q => q.elim
theorem vmk_R {V AG : Nat → Prop} {K F S : Nat → Int32} {R : Jvm.Term → Prop} {A : Nat → Prop} {H : Nat → Int32} (hV : ∀ t, V t → t < 100000 ∧ tOk V AG K F S t) {g : Nat} (hg : V g) (hR : R (tvl K F S g)) : vmk R A H (tvl K F S g) := by
  rcases (hV g hg).2 with ⟨k, h3, hk, -, -⟩ | ⟨k, x, y, h3, hk, hx, hy, h4, h5, h6, h7⟩ | ⟨k, x, h3, hk, hx, hy, h4, h6⟩
  · rw [tvl_0 hk h3] at hR ⊢
    exact Or.inl hR
  · rw [tvl_2 hV hk hx hy (by omega) (by omega) h4 h5 h6 h7] at hR ⊢
    rcases h3 with rfl | rfl | ⟨rfl | rfl, ha⟩
    · exact Or.inl hR
    · exact Or.inl hR
    · exact Or.inl hR
    · exact Or.inl hR
  · rw [tvl_1 hV hk hx hy (by omega) (by omega) h4 h6] at hR ⊢
    rcases h3 with rfl | ⟨rfl, ha⟩
    · exact Or.inl hR
    · exact Or.inl hR
theorem kIn_app {σ : kS} {l : rwT} {q : Nat × Int32 × Int32} {g : Jvm.Term} (h : kIn σ l g) : kIn σ (l ++ [q]) g := by
  obtain ⟨t, ⟨p, p1, p2⟩, t2⟩ := h
  exact ⟨t, ⟨p, List.mem_append_left _ p1, p2⟩, t2⟩
/-- what add writes -/
def adF (σ τ : kS) (K n m g ln : Nat) (w p : Int32) : Prop := (∀ c, c < K ∨ K + 8 ≤ c → τ c = σ c) ∧ τ (K + 1) = σ (K + 1) ∧ τ K = upd (σ K) 7 (nI (ln + 1)) ∧ τ (K + 2) = upd (σ (K + 2)) ln (nI g) ∧ τ (K + 3) = upd (σ (K + 3)) ln w ∧ τ (K + 4) = upd (σ (K + 4)) ln p ∧ τ (K + 5) = upd (σ (K + 5)) g (nI m) ∧ τ (K + 6) = upd (σ (K + 6)) g (nI m) ∧ ∀ a, a < 200 → τ (K + 7) a = if σ 2 g = nI 7 ∧ a < n ∧ σ 3 g = nI a then nI m else σ (K + 7) a
theorem iE_add {σ τ : kS} {K st n u m g : Nat} {l : rwT} {w p : Int32} (h : iE σ K st n u m l) (hg : kV n st u g) (hd : kGd σ g) (hw : σ K 13 = 0) (hi : ¬ rwI l g) (hF : adF σ τ K n m g l.length w p) : iE τ K st n u m (l ++ [(g, w, p)]) ∧ τ K 13 = 0 := by
  obtain ⟨f1, f2, f3, f4, f5, f6, f7, f8, f9⟩ := hF
  have hn := h.2.1
  have hm := h.2.2.2.2.2.2.1
  have hgl := iE_lt h hg
  have e : ∀ c, c < K ∨ K + 9 ≤ c → τ c = σ c := fun c hc => f1 c (by omega)
  have hc : eqC σ τ kCl := kFr_c h.1 e (by decide)
  obtain ⟨r1, r2, r3, r4, r5, r6, r7, r8⟩ := h.2.2.2.2.2.2.2.1
  have hmk : ∀ l' z, kMk τ l' z = kMk σ l' z := fun l' z => kMk_c hc
  have happ : ∀ t, rwI (l ++ [(g, w, p)]) t ↔ rwI l t ∨ t = g := fun t => rwI_app
  refine ⟨iE_fr h e f2 (fun j j1 _ => by rw [f3]; exact pk_un j1) ?_ (fun z z1 z2 => by have q := h.2.2.2.2.2.2.2.2.2 z z1 z2; have zg : z ≠ g := fun e => z2 (e ▸ hg); rw [f7, f8, pk_un zg, pk_un zg]; exact q) ?_, by rw [f3]; exact hw⟩
  · obtain ⟨w1, w2, w3, w4⟩ := h.2.2.2.2.2.1
    refine ⟨by rw [f3]; exact w1, fun z hz => ?_, fun z hz => ?_, fun a ha => ?_⟩
    · rw [f7]
      by_cases q : z = g
      · subst q
        exact ⟨m, Nat.le_refl _, pk_us⟩
      · rw [pk_un q]
        exact w2 z hz
    · rw [f8]
      by_cases q : z = g
      · subst q
        exact ⟨m, Nat.le_refl _, Or.inl pk_us⟩
      · rw [pk_un q]
        exact w3 z hz
    · rw [f9 a ha]
      split
      · exact ⟨m, Nat.le_refl _, rfl⟩
      · exact w4 a ha
  · unfold kRw
    rw [hc 2 (by decide), hc 3 (by decide), hc 4 (by decide), f4, f5, f6, f7, f8]
    simp only [hmk]
    refine ⟨by rw [f3]; simp [pk_us], fun i hi' => ?_, fun t ht => ?_, ?_, fun z hz => ?_, fun a ha => ?_, fun t ht => ?_, fun z hz hzd => ?_⟩
    · by_cases q : i = l.length
      · subst q
        rw [pk_us, pk_us, pk_us]
        simp
      · have hil : i < l.length := by simp at hi'; omega
        rw [pk_un q, pk_un q, pk_un q, List.getElem_append_left hil]
        exact r2 i hil
    · rcases (happ t).mp ht with ht | rfl
      · exact r3 t ht
      · exact ⟨hg, hd⟩
    · rw [List.map_append]
      refine List.pairwise_append.mpr ⟨r4, List.pairwise_singleton _ _, fun a ha b hb => ?_⟩
      obtain ⟨q, q1, rfl⟩ := List.mem_map.mp ha
      have hb : b = g := by simpa using hb
      subst hb
      exact fun z => hi ⟨q, q1, z⟩
    · rw [happ]
      by_cases q : z = g
      · subst q
        rw [pk_us]
        exact ⟨fun _ => Or.inr rfl, fun _ => rfl⟩
      · rw [pk_un q, r5 z hz]
        exact ⟨Or.inl, fun z => z.elim id (fun z => absurd z q)⟩
    · rw [f9 a (by omega)]
      by_cases q : σ 2 g = nI 7 ∧ a < n ∧ σ 3 g = nI a
      · rw [if_pos q]
        exact ⟨fun _ => ⟨g, (happ g).mpr (Or.inr rfl), q.1, q.2.2⟩, fun _ => rfl⟩
      · rw [if_neg q, r6 a ha]
        refine ⟨fun ⟨t, t1, t2⟩ => ⟨t, (happ t).mpr (Or.inl t1), t2⟩, fun ⟨t, t1, t2, t3⟩ => ?_⟩
        rcases (happ t).mp t1 with t1 | rfl
        · exact ⟨t, t1, t2, t3⟩
        · exact absurd ⟨t2, ha, t3⟩ q
    · rcases (happ t).mp ht with ht | rfl
      · by_cases q : t = g
        · subst q
          exact pk_us
        · rw [pk_un q]
          exact r7 t ht
      · exact pk_us
    · by_cases q : z = g
      · subst q
        rw [pk_us]
        refine ⟨fun _ => ?_, fun q => absurd q (nI_nm hm.1 hm.2)⟩
        exact vmk_R (iE_V h) hg ⟨z, (happ z).mpr (Or.inr rfl), rfl⟩
      · rw [pk_un q]
        refine ⟨fun q => vmk_mono (fun g => kIn_app) _ ((r8 z hz hzd).1 q), fun q => absurd hw ((r8 z hz hzd).2 q).1⟩
theorem kTr_add {σ : kS} {K st n u m g : Nat} {l : rwT} {w p : Int32} (h : iE σ K st n u m l) (hg : kV n st u g) : kTr σ (rwA l g w p) = trA (kTr σ l) (kTv σ g) w (nnI p) := by
  have hi : (∃ q ∈ kTr σ l, q.1 = kTv σ g) ↔ rwI l g := by
    rw [← kIn_iff h hg]
    unfold kTr kIn rwI
    constructor
    · rintro ⟨q, hq, e⟩
      obtain ⟨p, hp, rfl⟩ := List.mem_map.mp hq
      exact ⟨p.1, ⟨p, hp, rfl⟩, e⟩
    · rintro ⟨t, ⟨p, hp, rfl⟩, e⟩
      exact ⟨_, List.mem_map.mpr ⟨p, hp, rfl⟩, e⟩
  unfold trA rwA
  by_cases q : rwI l g
  · rw [if_pos q, cit_T (hi.mpr q)]
  · rw [if_neg q, cit_F (fun z => q (hi.mp z))]
    unfold kTr
    rw [List.map_append]
    rfl
/-- a row after add -/
def adP (σ : kS) (K st n u m : Nat) (l : rwT) (g : Nat) (w p : Int32) (r : Option Value) (σ' : kS) : Prop := r = some (.int (isB (¬ rwI l g))) ∧ iE σ' K st n u m (rwA l g w p) ∧ σ' K 13 = 0 ∧ nP σ σ' K
set_option maxRecDepth 100000 in
set_option maxHeartbeats 4000000 in
theorem mf_add (L : Nat) (xs : Nat → Int32) (d : Nat) (σ : kS) (K st n u m g : Nat) (l : rwT) (w p : Int32) (h : iE σ K st n u m l) (hg : kV n st u g) (hd : kGd σ g) (hw : σ K 13 = 0) : kXM kT L xs (d + 2) 51 [.ref K, .int (nI g), .int w, .int p] σ (adP σ K st n u m l g w p) := by
  have hb := isK_b h.1
  have hn := h.2.1
  have hgl := iE_lt h hg
  have hrw := h.2.2.2.2.2.2.2.1
  have hin := hrw.2.2.2.2.1 g hg
  have hst := h.2.2.2.2.2.1.1
  unfold kXM
  iterate 2 (refine kX_one rfl ?_)
  refine kX_cal (mc_kHas L xs d σ K st n u (nI g) (iE_nB h)) rfl (Or.inr rfl) rfl (jcall_v rfl rfl rfl (kT_kn h.1) rfl rfl) rfl (fun r1 σ1 q1 => ?_)
  obtain ⟨rfl, rfl⟩ := q1
  repeat refine kX_one rfl ?_
  refine kX_ifF (decide_eq_false (isB_ne.mpr (by rcases hg with z | z; exact Or.inl ⟨g, z, rfl⟩; exact Or.inr ⟨g, z.1, z.2, rfl⟩))) ?_
  iterate 1 (refine kX_one rfl ?_)
  refine kX_getN rfl rfl (kT_kn h.1) rfl ?_
  iterate 1 (refine kX_one rfl ?_)
  refine kX_ialdN rfl (kT_k5 h.1 (Or.inl rfl)) (by decide) (g) (by first | rfl | decide) (hgl) ?_
  iterate 1 (refine kX_one rfl ?_)
  refine kX_getN rfl rfl (kT_kn h.1) rfl ?_
  refine kX_top (hst) ?_
  repeat refine kX_one rfl ?_
  refine kX_if (fun q2 => ?_) (fun q2 => ?_)
  · have hi : rwI l g := hin.mp (qeq q2)
    have e : rwA l g w p = l := if_pos hi
    repeat refine kX_one rfl ?_
    refine kX_ret (i := .ireturn) (len := 1) rfl (Or.inr rfl) rfl (⟨rF (fun z => z hi), by rw [e]; exact h, hw, nP_refl (iE_nR h)⟩)
  · have hi : ¬ rwI l g := fun z => qeqF q2 (hin.mpr z)
    have e : rwA l g w p = l ++ [(g, w, p)] := if_neg hi
    have hln : l.length < 776 := by
      have h1 := nd_len (n + u) (((l ++ [(g, w, p)]).map (fun q => q.1)).map (fun t => if t < n then t else t - st + n)) ?_ ?_
      · have h2 := h.2.2.2.2.1.1
        simp at h1
        omega
      · refine List.pairwise_map.mpr (List.Pairwise.imp_of_mem (R := fun x y => x ≠ y) ?_ ?_)
        · intro a b ha hb hab
          have key : ∀ a, a ∈ (l ++ [(g, w, p)]).map (fun q => q.1) → kV n st u a := fun a ha => by
            obtain ⟨q, q1, rfl⟩ := List.mem_map.mp ha
            rcases List.mem_append.mp q1 with q1 | q1
            · exact (hrw.2.2.1 q.1 ⟨q, q1, rfl⟩).1
            · have : q = (g, w, p) := by simpa using q1
              rw [this]
              exact hg
          have := key a ha
          have := key b hb
          unfold kV at *
          split <;> split <;> omega
        · rw [List.map_append]
          refine List.pairwise_append.mpr ⟨hrw.2.2.2.1, List.pairwise_singleton _ _, fun a ha b hb => ?_⟩
          obtain ⟨q, q1, rfl⟩ := List.mem_map.mp ha
          have hb : b = g := by simpa using hb
          subst hb
          exact fun z => hi ⟨q, q1, z⟩
      · intro x hx
        obtain ⟨t, ht, rfl⟩ := List.mem_map.mp hx
        obtain ⟨q, q1, rfl⟩ := List.mem_map.mp ht
        have : kV n st u q.1 := by
          rcases List.mem_append.mp q1 with q1 | q1
          · exact (hrw.2.2.1 q.1 ⟨q, q1, rfl⟩).1
          · have : q = (g, w, p) := by simpa using q1
            rw [this]
            exact hg
        unfold kV at this
        split <;> omega
    obtain ⟨ln, l1⟩ : ∃ ln, l.length = ln := ⟨_, rfl⟩
    rw [l1] at hln
    have l2 : σ K 7 = nI ln := by rw [← l1]; exact hrw.1
    iterate 1 (refine kX_one rfl ?_)
    refine kX_getN rfl rfl (kT_kn h.1) rfl ?_
    refine kX_top (l2) ?_
    iterate 1 (refine kX_one rfl ?_)
    repeat refine kX_one rfl ?_
    refine kX_if (fun q3 => ?_) (fun q3 => ?_)
    · have q3 := qlt q3 ln 776
      have k104 : ∀ τ, (∀ c, c < K + 5 ∨ K + 8 ≤ c → τ c = σ c) → τ (K + 5) = upd (σ (K + 5)) g (nI m) → τ (K + 6) = upd (σ (K + 6)) g (nI m) → (∀ a, a < 200 → τ (K + 7) a = if σ 2 g = nI 7 ∧ a < n ∧ σ 3 g = nI a then nI m else σ (K + 7) a) → kX kT L xs (d + 2) 51 104 (lv_args 0 [.ref K, .int (nI g), .int w, .int p]) [] τ (adP σ K st n u m l g w p) := by
        intro τ hτ t5 t6 t7
        have e7 : τ K 7 = nI ln := by rw [hτ K (by omega)]; exact l2
        iterate 1 (refine kX_one rfl ?_)
        refine kX_getN rfl rfl (kT_kn h.1) rfl ?_
        iterate 1 (refine kX_one rfl ?_)
        refine kX_getN rfl rfl (kT_kn h.1) rfl ?_
        refine kX_top (e7) ?_
        iterate 1 (refine kX_one rfl ?_)
        refine kX_iastN rfl (kT_k2 h.1 (Or.inl rfl)) (by decide) (ln) (by first | rfl | decide) (q3) ?_
        iterate 1 (refine kX_one rfl ?_)
        refine kX_getN rfl rfl (kT_kn h.1) rfl ?_
        iterate 1 (refine kX_one rfl ?_)
        refine kX_getN rfl rfl (kT_kn h.1) rfl ?_
        refine kX_top (y := nI ln) (by rw [up_ne (by omega)]; exact e7) ?_
        iterate 1 (refine kX_one rfl ?_)
        refine kX_iastN rfl (kT_k2 h.1 (Or.inr (Or.inl rfl))) (by decide) (ln) (by first | rfl | decide) (q3) ?_
        iterate 1 (refine kX_one rfl ?_)
        refine kX_getN rfl rfl (kT_kn h.1) rfl ?_
        iterate 1 (refine kX_one rfl ?_)
        refine kX_getN rfl rfl (kT_kn h.1) rfl ?_
        refine kX_top (y := nI ln) (by rw [up_ne (by omega), up_ne (by omega)]; exact e7) ?_
        iterate 1 (refine kX_one rfl ?_)
        refine kX_iastN rfl (kT_k2 h.1 (Or.inr (Or.inr rfl))) (by decide) (ln) (by first | rfl | decide) (q3) ?_
        iterate 2 (refine kX_one rfl ?_)
        refine kX_getN rfl rfl (kT_kn h.1) rfl ?_
        refine kX_top (y := nI ln) (by rw [up_ne (by omega), up_ne (by omega), up_ne (by omega)]; exact e7) ?_
        iterate 2 (refine kX_one rfl ?_)
        refine kX_putN rfl rfl (kT_kn h.1) rfl (rfl) rfl ?_
        iterate 1 (refine kX_one rfl ?_)
        generalize hX : va_up (va_up (va_up (va_up τ (K + 2) _) (K + 3) _) (K + 4) _) K _ = ω
        have hF : adF σ ω K n m g ln w p := by
          subst hX
          refine ⟨fun c hc => ?_, ?_, ?_, ?_, ?_, ?_, ?_, ?_, ?_⟩
          · rw [up_ne (by omega), up_ne (by omega), up_ne (by omega), up_ne (by omega)]
            exact hτ c (by omega)
          · rw [up_ne (by omega), up_ne (by omega), up_ne (by omega), up_ne (by omega)]
            exact hτ _ (by omega)
          · rw [up_eq, up_ne (by omega), up_ne (by omega), up_ne (by omega), hτ K (by omega), ← nI_1]
            rfl
          · rw [up_ne (show K + 2 ≠ K by omega), up_ne (show K + 2 ≠ K + 4 by omega), up_ne (show K + 2 ≠ K + 3 by omega), up_eq, hτ (K + 2) (by omega)]
          · rw [up_ne (show K + 3 ≠ K by omega), up_ne (show K + 3 ≠ K + 4 by omega), up_eq, up_ne (show K + 3 ≠ K + 2 by omega), hτ (K + 3) (by omega)]
          · rw [up_ne (show K + 4 ≠ K by omega), up_eq, up_ne (show K + 4 ≠ K + 3 by omega), up_ne (show K + 4 ≠ K + 2 by omega), hτ (K + 4) (by omega)]
          · rw [up_ne (by omega), up_ne (by omega), up_ne (by omega), up_ne (by omega)]
            exact t5
          · rw [up_ne (by omega), up_ne (by omega), up_ne (by omega), up_ne (by omega)]
            exact t6
          · intro a ha
            rw [up_ne (by omega), up_ne (by omega), up_ne (by omega), up_ne (by omega)]
            exact t7 a ha
        rw [← l1] at hF
        have hE := iE_add h hg hd hw hi hF
        refine kX_ret (i := .ireturn) (len := 1) rfl (Or.inr rfl) rfl ⟨rT hi, by rw [e]; exact hE.1, hE.2, fun c hc => hF.1 c (by omega), hF.2.1, fun j j1 _ => by rw [hF.2.2.1]; exact pk_un j1, iE_nR hE.1⟩
      iterate 1 (refine kX_one rfl ?_)
      refine kX_getN rfl rfl (kT_kn h.1) rfl ?_
      iterate 2 (refine kX_one rfl ?_)
      refine kX_getN rfl rfl (kT_kn h.1) rfl ?_
      refine kX_top (hst) ?_
      refine kX_iastN rfl (kT_k5 h.1 (Or.inl rfl)) (by decide) (g) (by first | rfl | decide) (hgl) ?_
      iterate 1 (refine kX_one rfl ?_)
      refine kX_getN rfl rfl (kT_kn h.1) rfl ?_
      iterate 2 (refine kX_one rfl ?_)
      refine kX_getN rfl rfl (kT_kn h.1) rfl ?_
      refine kX_top (y := nI m) (by rw [up_ne (by omega)]; exact hst) ?_
      refine kX_iastN rfl (kT_k5 h.1 (Or.inr rfl)) (by decide) (g) (by first | rfl | decide) (hgl) ?_
      generalize hX : va_up (va_up σ (K + 5) _) (K + 6) _ = τ
      have hτ : ∀ c, c < K + 5 ∨ K + 7 ≤ c → τ c = σ c := fun c hc => by
        rw [← hX, up_ne (by omega), up_ne (by omega)]
      have t5 : τ (K + 5) = upd (σ (K + 5)) g (nI m) := by rw [← hX, up_ne (by omega), up_eq]
      have t6 : τ (K + 6) = upd (σ (K + 6)) g (nI m) := by rw [← hX, up_eq, up_ne (by omega)]
      iterate 1 (refine kX_one rfl ?_)
      refine kX_getN rfl rfl (kT_kn h.1) rfl ?_
      iterate 2 (refine kX_one rfl ?_)
      refine kX_ialdV rfl rfl (by decide) g (by rfl) hgl (congrFun (hτ 2 (by omega)) g) ?_
      iterate 1 (refine kX_one rfl ?_)
      repeat refine kX_one rfl ?_
      refine kX_if (fun q4 => ?_) (fun q4 => ?_)
      · have q4 : σ 2 g ≠ nI 7 := qne q4
        exact k104 τ (fun c hc => hτ c (by omega)) t5 t6 (fun a ha => by rw [if_neg (fun z => q4 z.1), hτ (K + 7) (by omega)])
      · have q4 : σ 2 g = nI 7 := qneF q4
        have hV := iE_V h
        obtain ⟨a, a1, a2⟩ : ∃ a, a < n ∧ σ 3 g = nI a := by
          rcases (hV g hg).2 with ⟨k, h3, hk, -, -⟩ | ⟨k, x, y, h3, hk, hx, hy, h4, h5, h6, h7⟩ | ⟨k, x, h3, hk, hx, hy, h4, h6⟩
          · have := nI_inj (hk.symm.trans q4)
            omega
          · have := nI_inj (hk.symm.trans q4)
            omega
          · have := nI_inj (hk.symm.trans q4)
            rcases h3 with h3 | h3
            · omega
            · exact ⟨x, h3.2.1, hx⟩
        iterate 1 (refine kX_one rfl ?_)
        refine kX_getN rfl rfl (kT_kn h.1) rfl ?_
        iterate 1 (refine kX_one rfl ?_)
        refine kX_getN rfl rfl (kT_kn h.1) rfl ?_
        iterate 2 (refine kX_one rfl ?_)
        refine kX_ialdV rfl rfl (by decide) g (by rfl) hgl ((congrFun (hτ 3 (by omega)) g).trans a2) ?_
        refine kX_cal (mc_has L xs d τ n _ hn (by rw [hτ 1 (by omega)]; exact h.2.2.1)) rfl (Or.inr rfl) rfl rfl rfl (fun r1 σ1 q1 => ?_)
        obtain ⟨rfl, rfl⟩ := q1
        repeat refine kX_one rfl ?_
        refine kX_if (fun q5 => ?_) (fun q5 => ?_)
        · exact absurd (qeq q5) (isB_ne.mpr ⟨a, a1, rfl⟩)
        · iterate 1 (refine kX_one rfl ?_)
          refine kX_getN rfl rfl (kT_kn h.1) rfl ?_
          iterate 1 (refine kX_one rfl ?_)
          refine kX_getN rfl rfl (kT_kn h.1) rfl ?_
          iterate 2 (refine kX_one rfl ?_)
          refine kX_ialdV rfl rfl (by decide) g (by rfl) hgl ((congrFun (hτ 3 (by omega)) g).trans a2) ?_
          iterate 1 (refine kX_one rfl ?_)
          refine kX_getN rfl rfl (kT_kn h.1) rfl ?_
          refine kX_top (y := nI m) (by rw [hτ K (by omega)]; exact hst) ?_
          refine kX_iastN rfl ((kT_k7 h.1).1) (by decide) (a) (by first | rfl | decide) (by omega) ?_
          refine k104 _ (fun c hc => by rw [up_ne (by omega)]; exact hτ c (by omega)) (by rw [up_ne (by omega)]; exact t5) (by rw [up_ne (by omega)]; exact t6) (fun b hb => ?_)
          rw [up_eq, hτ (K + 7) (by omega)]
          by_cases z : b = a
          · subst z
            rw [pk_us, if_pos ⟨q4, a1, a2⟩]
          · rw [pk_un z, if_neg (fun y => z (nI_inj (y.2.2.symm.trans a2)))]
    · have q3 := qltF q3 ln 776
      omega
end
section
/-! alike: takeApart -/
theorem nnI_nI {a : Nat} (ha : a < 2147483648) : nnI (nI a) = nI a := if_neg (nI_m1 ha)
theorem kTr_c {σ τ : kS} (e : eqC σ τ kCl) (l : rwT) : kTr τ l = kTr σ l := by
  unfold kTr
  rw [kTv_c e]
theorem mA_c {σ τ : kS} (e : eqC σ τ kCl) : mA τ = mA σ := by
  funext t
  unfold mA
  rw [e 233 (by decide)]
theorem nP_c {σ τ : kS} {K st : Nat} (hK : isK K st) (h : nP σ τ K) : eqC σ τ kCl := kFr_c hK h.1 (by decide)
theorem kTr_I {σ : kS} {l : rwT} : trI (kTr σ l) = kIn σ l := by
  funext g
  refine propext ⟨?_, ?_⟩
  · rintro ⟨q, hq, e⟩
    obtain ⟨p, hp, rfl⟩ := List.mem_map.mp hq
    exact ⟨p.1, ⟨p, hp, rfl⟩, e⟩
  · rintro ⟨t, ⟨p, hp, rfl⟩, e⟩
    exact ⟨_, List.mem_map.mpr ⟨p, hp, rfl⟩, e⟩
theorem kHp_t {σ : kS} {K st n u m y : Nat} {l : rwT} (h : iE σ K st n u m l) (h7 : kV n st u y) (h0 : σ 2 y = nI 0) : kHp σ l y ↔ vnh (σ 238) (.arg y) ∨ kIn σ l (.length (.arg y)) := by
  have e0 : tvl (σ 2) (σ 3) (σ 4) y = .arg y := tvl_0 h0 (by decide)
  rw [vnh_arg]
  refine or_congr Iff.rfl ⟨fun ⟨t, t1, t2, t3⟩ => ?_, fun ⟨t, t1, t2⟩ => ?_⟩
  · refine ⟨t, t1, ?_⟩
    have hy9 := (iE_V h y h7).1
    rcases (iE_V h t (iE_l h t1).1).2 with ⟨k, z3, zk, z4, z5⟩ | ⟨k, a, b, z3, zk, -⟩ | ⟨k, a, z3, zk, za, z5, z6, z7⟩
    · have := nI_inj (zk.symm.trans t2)
      omega
    · have := nI_inj (zk.symm.trans t2)
      omega
    · have ha9 := (iE_V h a z7).1
      obtain rfl : a = y := nI_inj (za.symm.trans t3)
      obtain rfl : k = 7 := nI_inj (zk.symm.trans t2)
      have e2 : kTv σ t = _ := tvl_1 (iE_V h) zk za z5 (by omega) (by omega) z6 z7
      rw [e2, e0]
      rfl
  · obtain ⟨a, b, -⟩ := tvl_priv (iE_V h) (iE_l h t1).1 t2
    exact ⟨t, t1, a, b⟩
theorem rwA_c {l : rwT} {t : Nat} {w p : Int32} : (rwI l t ∧ (rwA l t w p).length = l.length) ∨ (¬ rwI l t ∧ (rwA l t w p).length = l.length + 1) := by
  unfold rwA
  by_cases q : rwI l t
  · rw [if_pos q]
    exact Or.inl ⟨q, rfl⟩
  · rw [if_neg q]
    exact Or.inr ⟨q, by simp⟩
theorem rwA_B {l : rwT} {t : Nat} {w p : Int32} : isB (¬ rwI l t) = isB (l.length < (rwA l t w p).length) := by
  refine isB_iff ?_
  rcases rwA_c (l := l) (t := t) (w := w) (p := p) with ⟨a, b⟩ | ⟨a, b⟩
  · exact ⟨fun z => absurd a z, fun z => by omega⟩
  · exact ⟨fun _ => by omega, fun _ => a⟩
theorem rwA_le {l : rwT} {t : Nat} {w p : Int32} : l.length ≤ (rwA l t w p).length := by
  rcases rwA_c (l := l) (t := t) (w := w) (p := p) with ⟨a, b⟩ | ⟨a, b⟩
  · omega
  · omega
/-- a row after takeApartAt -/
def tkP (σ : kS) (K st n u m : Nat) (l : rwT) (i : Nat) (r : Option Value) (σ' : kS) : Prop := ∃ l', r = some (.int (isB (l.length < l'.length))) ∧ l.length ≤ l'.length ∧ iE σ' K st n u m l' ∧ σ' K 13 = 0 ∧ nP σ σ' K ∧ kTr σ' l' = trK (mA σ) (σ 238) (kTr σ l) i
set_option maxRecDepth 100000 in
set_option maxHeartbeats 4000000 in
theorem mf_takeAt (L : Nat) (xs : Nat → Int32) (d : Nat) (σ : kS) (K st n u m i : Nat) (l : rwT) (h : iE σ K st n u m l) (hw : σ K 13 = 0) (hi : i < l.length) : kXM kT L xs (d + 52) 53 [.ref K, .int (nI i)] σ (tkP σ K st n u m l i) := by
  have hb := isK_b h.1
  have hl7 := (iE_len h).2
  have hrw := h.2.2.2.2.2.2.2.1
  obtain ⟨g, hgi⟩ : ∃ g, (l[i]'hi).1 = g := ⟨_, rfl⟩
  obtain ⟨hg, hd⟩ := iE_l h ⟨l[i]'hi, List.getElem_mem hi, hgi⟩
  have hgl := iE_lt h hg
  have hg2 : σ (K + 2) i = nI g := by rw [← hgi]; exact (hrw.2.1 i hi).1
  have hV := iE_V h
  have hM : (kTr σ l)[i]? = some (kTv σ g, (l[i]'hi).2.1, nnI (l[i]'hi).2.2) := by
    unfold kTr
    rw [List.getElem?_map, List.getElem?_eq_getElem hi, ← hgi]
    rfl
  have hii : nnI (nI i) = nI i := nnI_nI (by omega)
  have hz : nP σ σ K := nP_refl (iE_nR h)
  have hAG : ∀ y, y < g → kV n st u y → kAG σ n y → kGd σ y → σ 2 y = nI 0 := fun y _ _ ha hgd => by
    rcases ha.2 with e | ⟨e, -⟩
    · exact e
    · unfold kGd at hgd
      rw [tgd_0 e (by decide)] at hgd
      exact absurd rfl (of_decide_eq_true hgd)
  have done0 : trK (mA σ) (σ 238) (kTr σ l) i = kTr σ l → tkP σ K st n u m l i (some (.int 0)) σ := fun e => ⟨l, by rw [isB_F (by omega)], Nat.le_refl _, h, hw, hz, e.symm⟩
  unfold kXM
  iterate 1 (refine kX_one rfl ?_)
  refine kX_getN rfl rfl (kT_kn h.1) rfl ?_
  iterate 1 (refine kX_one rfl ?_)
  refine kX_ialdV rfl (kT_k2 h.1 (Or.inl rfl)) (by decide) (i) (by first | rfl | decide) (by omega) (hg2) ?_
  iterate 2 (refine kX_one rfl ?_)
  refine kX_getN rfl rfl (kT_kn h.1) rfl ?_
  iterate 2 (refine kX_one rfl ?_)
  refine kX_ialdN rfl rfl (by decide) (g) (by first | rfl | decide) (hgl) ?_
  iterate 2 (refine kX_one rfl ?_)
  refine kX_getN rfl rfl (kT_kn h.1) rfl ?_
  iterate 2 (refine kX_one rfl ?_)
  refine kX_ialdN rfl rfl (by decide) (g) (by first | rfl | decide) (hgl) ?_
  iterate 4 (refine kX_one rfl ?_)
  refine kX_getN rfl rfl (kT_kn h.1) rfl ?_
  iterate 2 (refine kX_one rfl ?_)
  refine kX_ialdN rfl rfl (by decide) (g) (by first | rfl | decide) (hgl) ?_
  rcases (hV g hg).2 with ⟨k, h3, hk, -, -⟩ | ⟨k, x, y, h3, hk, hx, hy, h4, h5, h6, h7⟩ | ⟨k, x, h3, hk, hx, hy, h4, h6⟩
  · have e : kTv σ g = .arg g := tvl_0 hk h3
    have ht : trK (mA σ) (σ 238) (kTr σ l) i = kTr σ l := by
      unfold trK
      rw [hM, e]
    refine kX_tabO rfl (Or.inl (by rw [hk, nI_toInt (by omega)]; omega)) rfl ?_
    repeat refine kX_one rfl ?_
    refine kX_ret (i := .ireturn) (len := 1) rfl (Or.inr rfl) rfl (done0 ht)
  · have e : kTv σ g = _ := tvl_2 hV hk hx hy (by omega) (by omega) h4 h5 h6 h7
    have hd2 := hd
    unfold kGd at hd2
    rw [tgd_2 hV hk hx hy (by omega) (by omega) h4 h5 h6 h7, Bool.and_eq_true] at hd2
    have hxl := iE_lt h h6
    have hyl := iE_lt h h7
    have hdg : kDp σ g ≤ 47 := by
      rcases hg with z | z
      · have := h.2.2.2.2.2.2.2.2.1 g z
        omega
      · exact (h.2.2.2.2.1.2.2.2.2.1 g z.1 z.2).2.2
    have hdx := tdp_2 hV hk hx hy (by omega) (by omega) h4 h5 h6 h7
    have hdy1 : kDp σ y + 0 ≤ 48 := by unfold kDp at *; omega
    refine kX_top (hk) ?_
    rcases h3 with rfl | rfl | ⟨h3, ha⟩
    · have ht : trK (mA σ) (σ 238) (kTr σ l) i = trA (trA (kTr σ l) (kTv σ x) (nI 2) (nI i)) (kTv σ y) (nI 3) (nI i) := by
        unfold trK
        rw [hM, e]
        rfl
      iterate 3 (refine kX_one rfl ?_)
      refine kX_top (hx) ?_
      iterate 2 (refine kX_one rfl ?_)
      refine kX_cal (mf_add L xs (d + 49) σ K st n u m x l (nI 2) (nI i) h h6 hd2.1 hw) rfl (Or.inr rfl) rfl (jcall_v rfl rfl rfl (kT_kn h.1) rfl rfl) rfl (fun r1 σ1 q1 => ?_)
      obtain ⟨rfl, hE1, hw1, hP1⟩ := q1
      have hc1 := nP_c h.1 hP1
      iterate 3 (refine kX_one rfl ?_)
      refine kX_top (hy) ?_
      iterate 2 (refine kX_one rfl ?_)
      refine kX_cal (mf_add L xs (d + 49) σ1 K st n u m y (rwA l x (nI 2) (nI i)) (nI 3) (nI i) hE1 h7 (by unfold kGd; rw [hc1 2 (by decide), hc1 3 (by decide), hc1 4 (by decide)]; exact hd2.2) hw1) rfl (Or.inr rfl) rfl (jcall_v rfl rfl rfl (kT_kn h.1) rfl rfl) rfl (fun r1 σ2 q1 => ?_)
      obtain ⟨rfl, hE2, hw2, hP2⟩ := q1
      have hle1 := rwA_le (l := l) (t := x) (w := nI 2) (p := nI i)
      have hle2 := rwA_le (l := rwA l x (nI 2) (nI i)) (t := y) (w := nI 3) (p := nI i)
      have fin : kTr σ2 (rwA (rwA l x (nI 2) (nI i)) y (nI 3) (nI i)) = trK (mA σ) (σ 238) (kTr σ l) i := by
        rw [ht, kTr_c (nP_c h.1 hP2), kTr_add hE1 h7, kTr_c hc1, kTr_add h h6, kTv_c hc1, hii]
      have fin2 : ∀ v, isB (l.length < (rwA (rwA l x (nI 2) (nI i)) y (nI 3) (nI i)).length) = v → tkP σ K st n u m l i (some (.int v)) σ2 := fun v hv => ⟨_, by rw [hv], by omega, hE2, hw2, nP_trans hP1 hP2, fin⟩
      rcases rwA_c (l := rwA l x (nI 2) (nI i)) (t := y) (w := nI 3) (p := nI i) with ⟨b1, b2⟩ | ⟨b1, b2⟩
      · repeat refine kX_one rfl ?_
        refine kX_ifF (decide_eq_false (fun z => z (isB_F (fun z => z b1)))) ?_
        iterate 1 (refine kX_one rfl ?_)
        rcases rwA_c (l := l) (t := x) (w := nI 2) (p := nI i) with ⟨a1, a2⟩ | ⟨a1, a2⟩
        · repeat refine kX_one rfl ?_
          refine kX_ifT (decide_eq_true (isB_F (fun z => z a1))) ?_
          repeat refine kX_one rfl ?_
          refine kX_ret (i := .ireturn) (len := 1) rfl (Or.inr rfl) rfl (fin2 0 (isB_F (by omega)))
        · repeat refine kX_one rfl ?_
          refine kX_ifF (decide_eq_false (isB_ne.mpr a1)) ?_
          repeat refine kX_one rfl ?_
          refine kX_ret (i := .ireturn) (len := 1) rfl (Or.inr rfl) rfl (fin2 1 (isB_T (by omega)))
      · repeat refine kX_one rfl ?_
        refine kX_ifT (decide_eq_true (isB_ne.mpr b1)) ?_
        repeat refine kX_one rfl ?_
        refine kX_ret (i := .ireturn) (len := 1) rfl (Or.inr rfl) rfl (fin2 1 (isB_T (by omega)))
    · have ht : trK (mA σ) (σ 238) (kTr σ l) i = cit (kMk σ l y) (trA (kTr σ l) (kTv σ x) (nI 4) (nI i)) (kTr σ l) := by
        unfold trK
        rw [hM, e]
        show cit (vmk (trI (kTr σ l)) (mA σ) (σ 238) _) _ _ = _
        rw [kTr_I]
        rfl
      iterate 3 (refine kX_one rfl ?_)
      refine kX_top (hy) ?_
      iterate 1 (refine kX_one rfl ?_)
      refine kX_cal (mf_canMake L xs K st n u m l 49 d 0 σ y rfl hdy1 h h7 hd2.2) rfl (Or.inr rfl) rfl (jcall_v rfl rfl rfl (kT_kn h.1) rfl rfl) rfl (fun r1 σ1 q1 => ?_)
      obtain ⟨rfl, M, hM1, hE1⟩ := q1
      have hP1 : nP σ σ1 K := by rw [hM1]; exact nP_make (iE_nR h)
      have hc1 := nP_c h.1 hP1
      have hw1 : σ1 K 13 = 0 := by rw [hM1, up_ne (by omega)]; exact hw
      repeat refine kX_one rfl ?_
      refine kX_if (fun q => ?_) (fun q => ?_)
      · have q : ¬ kMk σ l y := fun z => isB_ne.mpr z (qeq q)
        repeat refine kX_one rfl ?_
        refine kX_ret (i := .ireturn) (len := 1) rfl (Or.inr rfl) rfl (⟨l, rF (by omega), Nat.le_refl _, hE1, hw1, hP1, by rw [kTr_c hc1, ht, cit_F q]⟩)
      · have q : kMk σ l y := isB_ne.mp (qeqF q)
        iterate 2 (refine kX_one rfl ?_)
        refine kX_top (hx) ?_
        iterate 2 (refine kX_one rfl ?_)
        refine kX_cal (mf_add L xs (d + 49) σ1 K st n u m x l (nI 4) (nI i) hE1 h6 (by unfold kGd; rw [hc1 2 (by decide), hc1 3 (by decide), hc1 4 (by decide)]; exact hd2.1) hw1) rfl (Or.inr rfl) rfl (jcall_v rfl rfl rfl (kT_kn h.1) rfl rfl) rfl (fun r1 σ2 q1 => ?_)
        obtain ⟨rfl, hE2, hw2, hP2⟩ := q1
        have fin : kTr σ2 (rwA l x (nI 4) (nI i)) = trK (mA σ) (σ 238) (kTr σ l) i := by
          rw [ht, cit_T q, kTr_c (nP_c h.1 hP2), kTr_add hE1 h6, kTr_c hc1, kTv_c hc1, hii]
        have fin2 : ∀ v, isB (l.length < (rwA l x (nI 4) (nI i)).length) = v → tkP σ K st n u m l i (some (.int v)) σ2 := fun v hv => ⟨_, by rw [hv], rwA_le, hE2, hw2, nP_trans hP1 hP2, fin⟩
        rcases rwA_c (l := l) (t := x) (w := nI 4) (p := nI i) with ⟨b1, b2⟩ | ⟨b1, b2⟩
        · repeat refine kX_one rfl ?_
          refine kX_ifT (decide_eq_true (isB_F (fun z => z b1))) ?_
          repeat refine kX_one rfl ?_
          refine kX_ret (i := .ireturn) (len := 1) rfl (Or.inr rfl) rfl (fin2 0 (isB_F (by omega)))
        · repeat refine kX_one rfl ?_
          refine kX_ifF (decide_eq_false (isB_ne.mpr b1)) ?_
          repeat refine kX_one rfl ?_
          refine kX_ret (i := .ireturn) (len := 1) rfl (Or.inr rfl) rfl (fin2 1 (isB_T (by omega)))
    · have hy0 := hAG y h5 h7 ha hd2.2
      have e0 : tvl (σ 2) (σ 3) (σ 4) y = .arg y := tvl_0 hy0 (by decide)
      rcases h3 with rfl | rfl
      · have ht : trK (mA σ) (σ 238) (kTr σ l) i = cit (kHp σ l y) (trA (kTr σ l) (kTv σ x) (nI 5) (nI i)) (kTr σ l) := by
          unfold trK
          rw [hM, e, e0]
          show cit (vnh (σ 238) (.arg y) ∨ trI (kTr σ l) (.length (.arg y))) _ _ = _
          rw [kTr_I, ← propext (kHp_t h h7 hy0)]
          rfl
        iterate 3 (refine kX_one rfl ?_)
        refine kX_top (hy) ?_
        refine kX_cal (mf_hasPriv L xs (d + 50) σ K st n u m y l h ha.1 hy0) rfl (Or.inr rfl) rfl (jcall_v rfl rfl rfl (kT_kn h.1) rfl rfl) rfl (fun r1 σ1 q1 => ?_)
        obtain ⟨rfl, rfl⟩ := q1
        repeat refine kX_one rfl ?_
        refine kX_if (fun q => ?_) (fun q => ?_)
        · have q : ¬ kHp σ l y := fun z => isB_ne.mpr z (qeq q)
          repeat refine kX_one rfl ?_
          refine kX_ret (i := .ireturn) (len := 1) rfl (Or.inr rfl) rfl (done0 (by rw [ht, cit_F q]))
        · have q : kHp σ l y := isB_ne.mp (qeqF q)
          iterate 2 (refine kX_one rfl ?_)
          refine kX_top (hx) ?_
          iterate 2 (refine kX_one rfl ?_)
          refine kX_cal (mf_add L xs (d + 49) σ K st n u m x l (nI 5) (nI i) h h6 hd2.1 hw) rfl (Or.inr rfl) rfl (jcall_v rfl rfl rfl (kT_kn h.1) rfl rfl) rfl (fun r1 σ2 q1 => ?_)
          obtain ⟨rfl, hE2, hw2, hP2⟩ := q1
          have fin : kTr σ2 (rwA l x (nI 5) (nI i)) = trK (mA σ) (σ 238) (kTr σ l) i := by
            rw [ht, cit_T q, kTr_c (nP_c h.1 hP2), kTr_add h h6, hii]
          have fin2 : ∀ v, isB (l.length < (rwA l x (nI 5) (nI i)).length) = v → tkP σ K st n u m l i (some (.int v)) σ2 := fun v hv => ⟨_, by rw [hv], rwA_le, hE2, hw2, hP2, fin⟩
          rcases rwA_c (l := l) (t := x) (w := nI 5) (p := nI i) with ⟨b1, b2⟩ | ⟨b1, b2⟩
          · repeat refine kX_one rfl ?_
            refine kX_ifT (decide_eq_true (isB_F (fun z => z b1))) ?_
            repeat refine kX_one rfl ?_
            refine kX_ret (i := .ireturn) (len := 1) rfl (Or.inr rfl) rfl (fin2 0 (isB_F (by omega)))
          · repeat refine kX_one rfl ?_
            refine kX_ifF (decide_eq_false (isB_ne.mpr b1)) ?_
            repeat refine kX_one rfl ?_
            refine kX_ret (i := .ireturn) (len := 1) rfl (Or.inr rfl) rfl (fin2 1 (isB_T (by omega)))
      · have ht : trK (mA σ) (σ 238) (kTr σ l) i = trA (kTr σ l) (kTv σ x) (nI 6) (nI i) := by
          unfold trK
          rw [hM, e]
          rfl
        iterate 3 (refine kX_one rfl ?_)
        refine kX_top (hx) ?_
        iterate 2 (refine kX_one rfl ?_)
        refine kX_cal (mf_add L xs (d + 49) σ K st n u m x l (nI 6) (nI i) h h6 hd2.1 hw) rfl (Or.inr rfl) rfl (jcall_v rfl rfl rfl (kT_kn h.1) rfl rfl) rfl (fun r1 σ2 q1 => ?_)
        obtain ⟨rfl, hE2, hw2, hP2⟩ := q1
        have fin : kTr σ2 (rwA l x (nI 6) (nI i)) = trK (mA σ) (σ 238) (kTr σ l) i := by
          rw [ht, kTr_c (nP_c h.1 hP2), kTr_add h h6, hii]
        refine kX_ret (i := .ireturn) (len := 1) rfl (Or.inr rfl) (jend_b rfl (isB_01 _)) (⟨_, by rw [rwA_B (w := nI 6) (p := nI i)], rwA_le, hE2, hw2, hP2, fin⟩)
  · have e : kTv σ g = _ := tvl_1 hV hk hx hy (by omega) (by omega) h4 h6
    have ht : trK (mA σ) (σ 238) (kTr σ l) i = kTr σ l := by
      unfold trK
      rw [hM, e]
      rcases h3 with rfl | ⟨rfl, -⟩ <;> rfl
    rcases h3 with rfl | ⟨rfl, -⟩
    · refine kX_tabO rfl (Or.inr (by rw [hk, nI_toInt (by omega)]; omega)) rfl ?_
      repeat refine kX_one rfl ?_
      refine kX_ret (i := .ireturn) (len := 1) rfl (Or.inr rfl) rfl (done0 ht)
    · refine kX_top (hk) ?_
      repeat refine kX_one rfl ?_
      refine kX_ret (i := .ireturn) (len := 1) rfl (Or.inr rfl) rfl (done0 ht)
end
section
/-! alike: takeApart -/
theorem kTr_len {σ : kS} {l : rwT} : (kTr σ l).length = l.length := List.length_map ..
/-- all is taken apart -/
def tkE (σ : kS) (K st n u m : Nat) (l : rwT) (r : Option Value) (σ' : kS) : Prop := r = none ∧ ∃ l', iE σ' K st n u m l' ∧ σ' K 13 = 1 ∧ nP σ σ' K ∧ kTr σ' l' = trE (mA σ) (σ 238) 1001 (kTr σ l)
set_option maxRecDepth 100000 in
set_option maxHeartbeats 4000000 in
theorem mf_takeApart (L : Nat) (xs : Nat → Int32) (d : Nat) (σ : kS) (K st n u m : Nat) (l : rwT) (h : iE σ K st n u m l) (hw : σ K 13 = 0) : kXM kT L xs (d + 53) 52 [.ref K] σ (tkE σ K st n u m l) := by
  have hb := isK_b h.1
  unfold kXM
  have k64 : ∀ τ l' lv, iE τ K st n u m l' → τ K 13 = 0 → nP σ τ K → kTr τ l' = trE (mA σ) (σ 238) 1001 (kTr σ l) → nk lv = true → ([(0, .ref K)] : jL).map (fun q => jl lv q.1) = ([(0, Value.ref K)] : jL).map (fun q => some q.2) → kX kT L xs (d + 53) 52 64 lv [] τ (tkE σ K st n u m l) := by
    intro τ l' lv hE hw' hP hT hk hlv
    refine kX_lv _ hk rfl hlv ?_
    iterate 2 (refine kX_one rfl ?_)
    refine kX_putN rfl rfl (kT_kn h.1) rfl (rfl) rfl ?_
    have eo : ∀ c, c < K ∨ K + 9 ≤ c → va_up τ K (upd (τ K) 13 (Int32.ofInt 1)) c = τ c := fun c hc => up_ne (by omega)
    have hE2 : iE (va_up τ K (upd (τ K) 13 (Int32.ofInt 1))) K st n u m l' := by
      refine iE_fr hE eo (up_ne (by omega)) (fun j _ j2 => by rw [up_eq]; exact pk_un j2) ?_ (fun z z1 z2 => by rw [up_ne (by omega), up_ne (by omega)]; exact hE.2.2.2.2.2.2.2.2.2 z z1 z2) ?_
      · obtain ⟨w1, w2, w3, w4⟩ := hE.2.2.2.2.2.1
        unfold kMs
        rw [up_eq, up_ne (show K + 5 ≠ K by omega), up_ne (show K + 6 ≠ K by omega), up_ne (show K + 7 ≠ K by omega)]
        exact ⟨w1, w2, w3, w4⟩
      · obtain ⟨r1, r2, r3, r4, r5, r6, r7, r8⟩ := hE.2.2.2.2.2.2.2.1
        have hc := kFr_c h.1 eo (l := kCl) (by decide)
        have hmk : ∀ z, kMk (va_up τ K (upd (τ K) 13 (Int32.ofInt 1))) l' z = kMk τ l' z := fun z => kMk_c hc
        unfold kRw
        simp only [hmk]
        rw [up_eq, up_ne (show K + 2 ≠ K by omega), up_ne (show K + 3 ≠ K by omega), up_ne (show K + 4 ≠ K by omega), up_ne (show K + 5 ≠ K by omega), up_ne (show K + 6 ≠ K by omega), up_ne (show K + 7 ≠ K by omega), hc 2 (by decide), hc 3 (by decide), hc 4 (by decide)]
        exact ⟨r1, r2, r3, r4, r5, r6, r7, fun g hg hd => ⟨(r8 g hg hd).1, fun z => absurd hw' ((r8 g hg hd).2 z).1⟩⟩
    refine kX_ret (i := .return_) (len := 1) rfl (Or.inr rfl) rfl ⟨rfl, l', hE2, by rw [up_eq]; exact pk_us, nP_trans hP ⟨fun c hc => up_ne (by omega), up_ne (by omega), fun j j1 j2 => by rw [up_eq]; exact pk_un j2, iE_nR hE2⟩, ?_⟩
    rw [kTr_c (kFr_c h.1 eo (by decide))]
    exact hT
  have inner : ∀ (p : Nat) (l0 : rwT) (T : trT), p ≤ 776 → (∀ τ l', iE τ K st n u m l' → τ K 13 = 0 → nP σ τ K → l0.length ≤ l'.length → kTr τ l' = T → kX kT L xs (d + 53) 52 58 [(1, .int (isB (l0.length < l'.length))), (2, .int (nI p)), (0, .ref K)] [] τ (tkE σ K st n u m l)) → ∀ q : Nat × Int32 × kS, (q.1 ≤ 776 ∧ ∃ l', iE q.2.2 K st n u m l' ∧ q.2.2 K 13 = 0 ∧ nP σ q.2.2 K ∧ l0.length ≤ l'.length ∧ q.2.1 = isB (l0.length < l'.length) ∧ trP (mA σ) (σ 238) (1001 - q.1) q.1 (kTr q.2.2 l') = T) → kX kT L xs (d + 53) 52 19 [(3, .int (nI q.1)), (1, .int q.2.1), (2, .int (nI p)), (0, .ref K)] [] q.2.2 (tkE σ K st n u m l) := by
    intro p l0 T hp he
    refine kX_while (fun q : Nat × Int32 × kS => [(3, .int (nI q.1)), (1, .int q.2.1), (2, .int (nI p)), (0, .ref K)]) (fun q => q.2.2) _ (fun q => 776 - q.1) ?_
    rintro ⟨i, v, τ⟩ ⟨i1, l', i2, i3, i4, i5, i6, i7⟩ ih
    dsimp only at i1 i2 i3 i4 i5 i6 i7 ih ⊢
    have hl7 := (iE_len i2).2
    have hc := nP_c h.1 i4
    obtain ⟨f, hf⟩ : ∃ f, 1001 - i = f + 1 := ⟨1000 - i, by omega⟩
    rw [hf] at i7
    unfold trP at i7
    rw [kTr_len] at i7
    iterate 2 (refine kX_one rfl ?_)
    refine kX_getN rfl rfl (kT_kn h.1) rfl ?_
    refine kX_top (i2.2.2.2.2.2.2.2.1.1) ?_
    repeat refine kX_one rfl ?_
    refine kX_if (fun q => ?_) (fun q => ?_)
    · have q := qge q i l'.length
      rw [if_neg (by omega)] at i7
      rw [i6]
      exact kX_lv _ rfl rfl rfl (he τ l' i2 i3 i4 i5 i7)
    · have q := qgeF q i l'.length
      rw [if_pos q] at i7
      iterate 2 (refine kX_one rfl ?_)
      repeat refine kX_one rfl ?_
      refine kX_if (fun q2 => ?_) (fun q2 => ?_)
      · have q2 := qge q2 i 776
        omega
      · have k51 : ∀ τ' l'' v', iE τ' K st n u m l'' → τ' K 13 = 0 → nP σ τ' K → l0.length ≤ l''.length → v' = isB (l0.length < l''.length) → kTr τ' l'' = trK (mA σ) (σ 238) (kTr τ l') i → kX kT L xs (d + 53) 52 51 [(3, .int (nI i)), (1, .int v), (2, .int (nI p)), (0, .ref K)] [.int v'] τ' (tkE σ K st n u m l) := by
          intro τ' l'' v' x1 x2 x3 x4 x5 x6
          iterate 3 (refine kX_one rfl ?_)
          have := ih (i + 1, v', τ') ⟨by simp only; omega, l'', x1, x2, x3, x4, x5, by
            simp only
            rw [x6, ← i7, show 1001 - (i + 1) = f by omega]⟩ (by simp only; omega)
          dsimp only at this
          rw [← nI_1] at this
          exact kX_lv _ rfl rfl rfl this
        iterate 2 (refine kX_one rfl ?_)
        refine kX_cal (mf_takeAt L xs d τ K st n u m i l' i2 i3 q) rfl (Or.inr rfl) rfl (jcall_v rfl rfl rfl (kT_kn h.1) rfl rfl) rfl (fun r1 σ1 q1 => ?_)
        obtain ⟨l'', rfl, j1, j2, j3, j4, j5⟩ := q1
        rw [mA_c hc, hc 238 (by decide)] at j5
        repeat refine kX_one rfl ?_
        refine kX_if (fun q => ?_) (fun q => ?_)
        · have q : l'.length < l''.length := isB_ne.mp (qne q)
          iterate 2 (refine kX_one rfl ?_)
          exact k51 σ1 l'' 1 j2 j3 (nP_trans i4 j4) (by omega) (isB_T (by omega)).symm j5
        · have q : ¬ l'.length < l''.length := fun z => isB_ne.mpr z (qneF q)
          iterate 1 (refine kX_one rfl ?_)
          repeat refine kX_one rfl ?_
          refine kX_if (fun q3 => ?_) (fun q3 => ?_)
          · have q3 : ¬ l0.length < l'.length := fun z => isB_ne.mpr z (i6.symm.trans (qeq q3))
            iterate 1 (refine kX_one rfl ?_)
            exact k51 σ1 l'' 0 j2 j3 (nP_trans i4 j4) (by omega) (isB_F (by omega)).symm j5
          · have q3 : l0.length < l'.length := isB_ne.mp (fun z => qeqF q3 (i6.trans z))
            iterate 2 (refine kX_one rfl ?_)
            exact k51 σ1 l'' 1 j2 j3 (nP_trans i4 j4) (by omega) (isB_T (by omega)).symm j5
  have outer : ∀ q : Nat × Int32 × kS, (q.1 ≤ 777 ∧ ∃ l', iE q.2.2 K st n u m l' ∧ q.2.2 K 13 = 0 ∧ nP σ q.2.2 K ∧ ((q.2.1 = 1 ∧ q.1 ≤ l'.length ∧ trE (mA σ) (σ 238) (1001 - q.1) (kTr q.2.2 l') = trE (mA σ) (σ 238) 1001 (kTr σ l)) ∨ (q.2.1 = 0 ∧ kTr q.2.2 l' = trE (mA σ) (σ 238) 1001 (kTr σ l)))) → kX kT L xs (d + 53) 52 4 [(2, .int (nI q.1)), (1, .int q.2.1), (0, .ref K)] [] q.2.2 (tkE σ K st n u m l) := by
    refine kX_while (fun q : Nat × Int32 × kS => [(2, .int (nI q.1)), (1, .int q.2.1), (0, .ref K)]) (fun q => q.2.2) _ (fun q => 777 - q.1) ?_
    rintro ⟨p, v, τ⟩ ⟨i1, l', i2, i3, i4, i5⟩ ih
    dsimp only at i1 i2 i3 i4 i5 ih ⊢
    have hl7 := (iE_len i2).2
    iterate 2 (refine kX_one rfl ?_)
    repeat refine kX_one rfl ?_
    refine kX_if (fun q => ?_) (fun q => ?_)
    · have q := qgt q p 776
      rcases i5 with ⟨rfl, i5, i6⟩ | ⟨rfl, i5⟩
      · omega
      · exact k64 τ l' _ i2 i3 i4 i5 rfl rfl
    · have q := qgtF q p 776
      iterate 1 (refine kX_one rfl ?_)
      rcases i5 with ⟨rfl, i5, i6⟩ | ⟨rfl, i5⟩
      · obtain ⟨f, hf⟩ : ∃ f, 1001 - p = f + 1 := ⟨1000 - p, by omega⟩
        rw [hf] at i6
        unfold trE at i6
        iterate 5 (refine kX_one rfl ?_)
        refine kX_lv _ rfl rfl rfl (inner p l' (trP (mA σ) (σ 238) 1001 0 (kTr τ l')) q (fun τ' l'' x1 x2 x3 x4 x5 => ?_) (0, 0, τ) ⟨Nat.zero_le _, l', i2, i3, i4, Nat.le_refl _, (isB_F (by omega)).symm, rfl⟩)
        rw [← x5, kTr_len, kTr_len] at i6
        iterate 2 (refine kX_one rfl ?_)
        by_cases z : l'.length < l''.length
        · rw [if_pos z] at i6
          rw [isB_T z]
          have := ih (p + 1, 1, τ') ⟨by simp only; omega, l'', x1, x2, x3, Or.inl ⟨rfl, by simp only; omega, by
            simp only
            rw [show 1001 - (p + 1) = f by omega]
            exact i6⟩⟩ (by simp only; omega)
          dsimp only at this
          rw [← nI_1] at this
          exact kX_lv _ rfl rfl rfl this
        · rw [if_neg z] at i6
          rw [isB_F z]
          have := ih (p + 1, 0, τ') ⟨by simp only; omega, l'', x1, x2, x3, Or.inr ⟨rfl, i6⟩⟩ (by simp only; omega)
          dsimp only at this
          rw [← nI_1] at this
          exact kX_lv _ rfl rfl rfl this
      · iterate 1 (refine kX_one rfl ?_)
        exact k64 τ l' _ i2 i3 i4 i5 rfl rfl
  iterate 4 (refine kX_one rfl ?_)
  exact kX_lv _ rfl rfl rfl (outer (0, 1, σ) ⟨Nat.zero_le _, l, h, hw, nP_refl (iE_nR h), Or.inl ⟨rfl, Nat.zero_le _, rfl⟩⟩)
end
section
/-! alike: find, findOrPut of an intruder -/
theorem kV_up {n st u u' g : Nat} (hu : u ≤ u') (h : kV n st u g) : kV n st u' g := by
  unfold kV at *
  omega
set_option maxRecDepth 100000 in
set_option maxHeartbeats 4000000 in
theorem mf_kFind (L : Nat) (xs : Nat → Int32) (d : Nat) (σ : kS) (K st n u m : Nat) (l : rwT) (w x y : Int32) (h : iE σ K st n u m l) (hC : cCn σ n) : kXM kT L xs (d + 2) 48 [.ref K, .int w, .int x, .int y] σ (fun r σ' => cFn σ (fun t => kV n st u t ∧ 3 < fN (σ 2 t)) w x y r ∧ σ = σ') := by
  have hb := isK_b h.1
  have hn := h.2.1
  have hT := h.2.2.2.2.1
  have hu := hT.1
  obtain ⟨s1, s2⟩ := cSl_ok w x y
  unfold kXM
  iterate 3 (refine kX_one rfl ?_)
  refine kX_cal (mc_slot L xs d σ w x y) rfl (Or.inr rfl) rfl rfl rfl (fun r1 σ1 q1 => ?_)
  obtain ⟨rfl, rfl⟩ := q1
  refine kX_top (s2) ?_
  iterate 2 (refine kX_one rfl ?_)
  refine kX_getN rfl rfl (kT_kn h.1) rfl ?_
  iterate 1 (refine kX_one rfl ?_)
  refine kX_getN rfl rfl (kT_kn h.1) rfl ?_
  iterate 2 (refine kX_one rfl ?_)
  refine kX_ialdN rfl rfl (by decide) (fN (cSl w x y)) (by first | rfl | decide) (s1) ?_
  iterate 3 (refine kX_one rfl ?_)
  refine kX_cal (mf_findFrom L xs d σ (fun t => (t < n ∧ 3 < fN (σ 2 t)) ∧ cpt σ t = fN (cSl w x y)) (σ 7 (fN (cSl w x y))) w x y (fun t ht => ⟨by omega, ?_⟩) (hC.1 _ s1)) rfl (Or.inr rfl) rfl rfl rfl (fun r1 σ1 q1 => ?_)
  · have := hC.2 t ht.1
    rw [ht.2] at this
    exact this
  · obtain ⟨hq, rfl⟩ := q1
    rcases cFn_all hq with ⟨rfl, hno⟩ | ⟨t, t1, rfl, t3⟩
    · iterate 4 (refine kX_one rfl ?_)
      iterate 1 (refine kX_one rfl ?_)
      refine kX_getN rfl rfl (kT_kn h.1) rfl ?_
      iterate 1 (refine kX_one rfl ?_)
      refine kX_getN rfl rfl (kT_kn h.1) rfl ?_
      iterate 1 (refine kX_one rfl ?_)
      refine kX_ialdN rfl (kT_k1 h.1) (by decide) (fN (cSl w x y)) (by first | rfl | decide) (s1) ?_
      iterate 3 (refine kX_one rfl ?_)
      refine kX_cal (mf_findFrom L xs d σ (fun t => (st ≤ t ∧ t < st + u) ∧ cpt σ t = fN (cSl w x y)) (σ (K + 1) (fN (cSl w x y))) w x y (fun t ht => ⟨by omega, ?_⟩) (hT.2.2.2.2.2.1 _ s1)) rfl (Or.inr rfl) rfl rfl rfl (fun r1 σ1 q1 => ?_)
      · have := hT.2.2.2.2.2.2 t ht.1
        rw [ht.2] at this
        exact this
      · obtain ⟨hq, rfl⟩ := q1
        rcases cFn_all hq with ⟨rfl, hno2⟩ | ⟨t, t1, rfl, t3⟩
        · refine kX_ret (i := .ireturn) (len := 1) rfl (Or.inr rfl) rfl (⟨Or.inl ⟨rfl, fun t ht => ht.1.elim (fun z => hno t ⟨z, ht.2⟩) (fun z => hno2 t z)⟩, rfl⟩)
        · refine kX_ret (i := .ireturn) (len := 1) rfl (Or.inr rfl) rfl (⟨Or.inr ⟨t, ⟨Or.inr t1, (hT.2.2.2.2.1 t t1.1 t1.2).1⟩, rfl, t3⟩, rfl⟩)
    · iterate 3 (refine kX_one rfl ?_)
      repeat refine kX_one rfl ?_
      refine kX_ifF (decide_eq_false (nI_m1 (by omega))) ?_
      iterate 2 (refine kX_one rfl ?_)
      refine kX_ret (i := .ireturn) (len := 1) rfl (Or.inr rfl) rfl (⟨Or.inr ⟨t, ⟨Or.inl t1.1, t1.2⟩, rfl, t3⟩, rfl⟩)
/-- the intruder's table grows -/
def nF2 (σ τ : kS) (K st : Nat) : Prop := nF σ τ K st ∧ ∀ j, j < st ∨ st + 576 ≤ j → τ 5 j = σ 5 j
theorem nF2_refl (σ : kS) (K st : Nat) : nF2 σ σ K st := ⟨nF_refl σ K st, fun _ _ => rfl⟩
theorem nF2_trans {σ τ ρ : kS} {K st : Nat} (h1 : nF2 σ τ K st) (h2 : nF2 τ ρ K st) : nF2 σ ρ K st := ⟨nF_trans h1.1 h2.1, fun j hj => (h2.2 j hj).trans (h1.2 j hj)⟩
theorem nF2_P {σ τ : kS} {K st : Nat} (hK : isK K st) (h : nP σ τ K) : nF2 σ τ K st := ⟨nF_P hK h, fun j _ => by have := isK_b hK; rw [h.1 5 (by omega)]⟩
def iX (σ τ : kS) (K st n u u' : Nat) : Prop := u ≤ u' ∧ nF2 σ τ K st ∧ (∀ z, kV n st u z → τ 2 z = σ 2 z ∧ τ 3 z = σ 3 z ∧ τ 4 z = σ 4 z) ∧ τ K 13 = σ K 13
theorem iX_refl (σ : kS) (K st n u : Nat) : iX σ σ K st n u u := ⟨Nat.le_refl _, nF2_refl σ K st, fun _ _ => ⟨rfl, rfl, rfl⟩, rfl⟩
theorem iX_trans {σ τ ρ : kS} {K st n u u' u'' : Nat} (h1 : iX σ τ K st n u u') (h2 : iX τ ρ K st n u' u'') : iX σ ρ K st n u u'' :=
  ⟨by have := h1.1; have := h2.1; omega, nF2_trans h1.2.1 h2.2.1, fun z hz => by
    obtain ⟨a1, a2, a3⟩ := h1.2.2.1 z hz
    obtain ⟨b1, b2, b3⟩ := h2.2.2.1 z (kV_up h1.1 hz)
    exact ⟨b1.trans a1, b2.trans a2, b3.trans a3⟩, h2.2.2.2.trans h1.2.2.2⟩
section IX
variable {σ τ : kS} {K st n u u' m : Nat} {l : rwT}
theorem iX_A {α : Type} {lf : Nat → α} {nd : Nat → α → Option α → α} (h : iE σ K st n u m l) (hX : iX σ τ K st n u u') {z : Nat} (hz : kV n st u z) : tA lf nd (τ 2) (τ 3) (τ 4) z = tA lf nd (σ 2) (σ 3) (σ 4) z :=
  tA_congr (iE_V h) (fun t ht => by obtain ⟨a, b, c⟩ := hX.2.2.1 t ht; exact ⟨a, b, c, rfl⟩) z hz
theorem iX_kTv (h : iE σ K st n u m l) (hX : iX σ τ K st n u u') {z : Nat} (hz : kV n st u z) : kTv τ z = kTv σ z := iX_A h hX hz
theorem iX_kGd (h : iE σ K st n u m l) (hX : iX σ τ K st n u u') {z : Nat} (hz : kV n st u z) : kGd τ z ↔ kGd σ z := by
  have : tgd (τ 2) (τ 3) (τ 4) z = tgd (σ 2) (σ 3) (σ 4) z := tA_congr (iE_V h) (fun t ht => by obtain ⟨a, b, c⟩ := hX.2.2.1 t ht; exact ⟨a, b, c, by rw [a]⟩) z hz
  unfold kGd
  rw [this]
theorem iX_kDp (h : iE σ K st n u m l) (hX : iX σ τ K st n u u') {z : Nat} (hz : kV n st u z) : kDp τ z = kDp σ z := iX_A h hX hz
theorem iX_kTr (h : iE σ K st n u m l) (hX : iX σ τ K st n u u') : kTr τ l = kTr σ l := by
  unfold kTr
  refine List.map_congr_left (fun q hq => ?_)
  rw [iX_kTv h hX (iE_l h ⟨q, hq, rfl⟩).1]
end IX
/-- one more TERM without number -/
theorem iE_put {σ : kS} {K st n u m k x y sl : Nat} {l : rwT} {a c z : Int32} (h : iE σ K st n u m l) (hC : cCn σ n) (hu : u < 576) (hk : 3 < k) (hw : tNw k a c x y (st + u)) (hx : kV n st u x) (hy : k = 4 ∨ k = 5 ∨ k = 6 ∨ k = 8 → kV n st u y) (h6 : k = 6 ∨ k = 8 → kAG σ n y) (h7 : k = 7 → kAG σ n x) (hgx : kGd σ x) (hgy : k = 4 ∨ k = 5 ∨ k = 6 ∨ k = 8 → kGd σ y) (hdx : kDp σ x ≤ 46) (hdy : k = 4 ∨ k = 5 ∨ k = 6 ∨ k = 8 → kDp σ y ≤ 46) (hsl : sl < 256) (hs : cSl (nI k) a c = nI sl)
    (hz : z = 1 + σ 5 x + (if k = 7 ∨ k = 9 then 0 else σ 5 y)) (hno : ∀ t, kV n st u t → 3 < fN (σ 2 t) → ¬ cIs σ t (nI k) a c) : iE (fpS σ K (st + u) sl (nI k) a c z u) K st n (u + 1) m l ∧ cCn (fpS σ K (st + u) sl (nI k) a c z u) n ∧ iX σ (fpS σ K (st + u) sl (nI k) a c z u) K st n u (u + 1) := by
  have hb := isK_b h.1
  have hk9 : k ≤ 9 := by rcases hw with q | q | q <;> omega
  have eK : fpS σ K (st + u) sl (nI k) a c z u K = upd (σ K) 3 (nI (u + 1)) := up_eq
  have eH : fpS σ K (st + u) sl (nI k) a c z u (K + 1) = upd (σ (K + 1)) sl (nI (st + u)) := by
    unfold fpS
    rw [up_ne (by omega), up_eq]
  have e2 : fpS σ K (st + u) sl (nI k) a c z u 2 = upd (σ 2) (st + u) (nI k) := by
    unfold fpS
    rw [up_ne (by omega), up_ne (by omega)]
    rfl
  have e3 : fpS σ K (st + u) sl (nI k) a c z u 3 = upd (σ 3) (st + u) a := by
    unfold fpS
    rw [up_ne (by omega), up_ne (by omega)]
    rfl
  have e4 : fpS σ K (st + u) sl (nI k) a c z u 4 = upd (σ 4) (st + u) c := by
    unfold fpS
    rw [up_ne (by omega), up_ne (by omega)]
    rfl
  have e5 : fpS σ K (st + u) sl (nI k) a c z u 5 = upd (σ 5) (st + u) z := by
    unfold fpS
    rw [up_ne (by omega), up_ne (by omega)]
    rfl
  have e6 : fpS σ K (st + u) sl (nI k) a c z u 6 = upd (σ 6) (st + u) (σ (K + 1) sl) := by
    unfold fpS
    rw [up_ne (by omega), up_ne (by omega)]
    rfl
  have eo : ∀ e, e ≠ K → e ≠ K + 1 → e ≠ 2 → e ≠ 3 → e ≠ 4 → e ≠ 5 → e ≠ 6 → fpS σ K (st + u) sl (nI k) a c z u e = σ e := fun e a0 a1 a2 a3 a4 a5 a6 => by
    unfold fpS
    rw [up_ne a0, up_ne a1, up_ne a6, up_ne a5, up_ne a4, up_ne a3, up_ne a2]
  generalize fpS σ K (st + u) sl (nI k) a c z u = τ at *
  have hF : nF σ τ K st := by
    refine ⟨fun c a1 a2 a3 a4 a5 a6 => eo c (by omega) (by omega) a2 a3 a4 a5 a6, fun j hj => ?_⟩
    rw [e2, e3, e4, e6, pk_un (by omega), pk_un (by omega), pk_un (by omega), pk_un (by omega)]
    exact ⟨rfl, rfl, rfl, rfl⟩
  obtain ⟨h1, h2, h3, h4, h5, hM, hm, hR, hD, hQ⟩ := id h
  have hlt : ∀ t, kV n st u t → t < st + u := fun t ht => by unfold kV at ht; omega
  have hX : iX σ τ K st n u (u + 1) := by
    refine ⟨by omega, ⟨hF, fun j hj => ?_⟩, fun t ht => ?_, ?_⟩
    · rw [e5, pk_un (by omega)]
    · have := hlt t ht
      rw [e2, e3, e4, pk_un (by omega), pk_un (by omega), pk_un (by omega)]
      exact ⟨rfl, rfl, rfl⟩
    · rw [eK]
      exact pk_un (by decide)
  have hVe : ∀ t, (kV n st u t ∨ t = st + u) ↔ kV n st (u + 1) t := fun t => by unfold kV; omega
  have hVf : (fun t => kV n st u t ∨ t = st + u) = kV n st (u + 1) := funext fun t => propext (hVe t)
  have hAGe : kAG τ n = kAG σ n := by
    funext t
    unfold kAG
    refine propext (and_congr_right (fun ht => ?_))
    rw [e2, pk_un (by omega), eo 11 (by omega) (by omega) (by decide) (by decide) (by decide) (by decide) (by decide)]
  have hcn : ∀ t, t < n → τ 2 t = σ 2 t ∧ τ 3 t = σ 3 t ∧ τ 4 t = σ 4 t := fun t ht => hX.2.2.1 t (Or.inl ht)
  have hV := iE_V h
  have hxl := (hV x hx).1
  have hn9 : tOk (kV n st u) (kAG σ n) (upd (σ 2) (st + u) (nI k)) (upd (σ 3) (st + u) a) (upd (σ 4) (st + u) c) (st + u) := tOk_new hw (fun _ => hx) hy h6 h7
  have hV2 := tb_valid hV hlt (show st + u < 100000 by omega) (fun _ q => q) hn9
  have hsz : z = nI (tsz (upd (σ 2) (st + u) (nI k)) (upd (σ 3) (st + u) a) (upd (σ 4) (st + u) c) (st + u)) := by
    unfold tsz
    rw [tA_new (lf := fun _ => 1) (nd := fun _ a b => 1 + a + b.getD 0) hV hlt (by omega) (fun _ q => q) (fun _ _ => rfl) hw (fun _ => hx) hy h6 h7]
    have zx := h5.2.2.2.1.2.1 x hx
    unfold tNd
    rw [hz, zx]
    rcases hw with q | q | q
    · omega
    · have zy := h5.2.2.2.1.2.1 y (hy q.1)
      rw [if_neg (by omega), zy, if_neg (by omega), if_neg (by omega)]
      show nI 1 + nI _ + nI _ = _
      rw [nI_add, nI_add]
      rfl
    · rw [if_pos (by omega), if_neg (by omega), if_pos (by omega)]
      show nI 1 + nI _ + nI 0 = _
      rw [nI_add, nI_add]
      rfl
  have hW2 : tbW (kV n st (u + 1)) (kAG τ n) (τ 2) (τ 3) (τ 4) (τ 5) := by
    rw [e2, e3, e4, e5, hAGe, hsz, ← hVf]
    exact tb_push h5.2.2.2.1 hlt (by omega) (fun _ q => q) hn9 (fun q t ht e => hno t ht (by rw [e.1]; exact q) e)
  have hgn : kGd τ (st + u) ∧ kDp τ (st + u) ≤ 47 := by
    unfold kGd kDp tgd tdp
    rw [e2, e3, e4]
    rw [tA_new (lf := fun t => decide (σ 2 t ≠ nI 3)) (nd := fun _ a b => a && b.getD true) hV hlt (by omega) (fun _ q => q) (fun t ht => by have := hlt t ht; rw [pk_un (by omega)]) hw (fun _ => hx) hy h6 h7, tA_new (lf := fun _ => 0) (nd := fun _ a b => 1 + max a (b.getD 0)) hV hlt (by omega) (fun _ q => q) (fun _ _ => rfl) hw (fun _ => hx) hy h6 h7]
    unfold tNd
    unfold kGd tgd at hgx hgy
    unfold kDp tdp at hdx hdy
    rcases hw with q | q | q
    · omega
    · have := hgy q.1
      have := hdy q.1
      rw [if_neg (by omega), if_neg (by omega), if_neg (by omega), if_neg (by omega)]
      refine ⟨?_, ?_⟩
      · simp only [Option.getD_some, hgx, hgy q.1, Bool.and_true]
      · simp only [Option.getD_some]
        omega
    · rw [if_neg (by omega), if_pos (by omega), if_neg (by omega), if_pos (by omega)]
      refine ⟨?_, ?_⟩
      · simp only [Option.getD_none, hgx, Bool.and_true]
      · simp only [Option.getD_none]
        omega
  have hcp : ∀ t, kV n st u t → cpt τ t = cpt σ t := fun t ht => by
    obtain ⟨q1, q2, q3⟩ := hX.2.2.1 t ht
    unfold cpt
    rw [q1, q2, q3]
  have hcpn : cpt τ (st + u) = sl := by
    unfold cpt
    rw [e2, e3, e4, pk_us, pk_us, pk_us, hs]
    exact fN_nI (by omega)
  have hch : hcP 256 1928 (fun g => st ≤ g ∧ g < st + (u + 1)) (cpt τ) (τ (K + 1)) (τ 6) := by
    have g1 : hcP 256 1928 (fun g => st ≤ g ∧ g < st + u) (cpt τ) (σ (K + 1)) (σ 6) := hcP_congr (fun _ => Iff.rfl) (fun t ht => (hcp t (Or.inr ht)).symm) h5.2.2.2.2.2
    have g2 := hcP_push (t := st + u) g1 (fun t' ht' => ht'.2) (by omega) (by rw [hcpn]; exact hsl)
    rw [hcpn] at g2
    rw [eH, e6]
    exact hcP_congr (fun t => by omega) (fun _ _ => rfl) g2
  have hTb : kTb τ K st n (u + 1) := by
    refine ⟨by omega, by rw [eK]; exact pk_us, by rw [eK, pk_un (by decide)]; exact h5.2.2.1, hW2, fun g g1 g2 => ?_, hch⟩
    by_cases e : g = st + u
    · subst e
      refine ⟨?_, hgn.1, hgn.2⟩
      rw [e2, pk_us, fN_nI (by omega)]
      exact hk
    · obtain ⟨q1, q2, q3⟩ := h5.2.2.2.2.1 g g1 (by omega)
      have hgv : kV n st u g := Or.inr ⟨g1, by omega⟩
      refine ⟨by rw [(hX.2.2.1 g hgv).1]; exact q1, (iX_kGd h hX hgv).mpr q2, ?_⟩
      have := iX_kDp h hX hgv
      unfold kDp at this
      rw [this]
      exact q3
  have ec : ∀ e, K + 2 ≤ e → e < K + 9 → τ e = σ e := fun e a1 a2 => eo e (by omega) (by omega) (by omega) (by omega) (by omega) (by omega) (by omega)
  have er : ∀ e, 7 ≤ e → e < 13 → τ e = σ e := fun e a1 a2 => hF.1 e (by omega) (by omega) (by omega) (by omega) (by omega) (by omega)
  have eh : ∀ e, 222 ≤ e → τ e = σ e := fun e a1 => hF.1 e (by omega) (by omega) (by omega) (by omega) (by omega) (by omega)
  have hmk : ∀ g, kV n st u g → kMk τ l g = kMk σ l g := fun g hg => by
    have hin : kIn τ l = kIn σ l := by
      funext q
      refine propext ⟨fun ⟨t, t1, t2⟩ => ⟨t, t1, ?_⟩, fun ⟨t, t1, t2⟩ => ⟨t, t1, ?_⟩⟩
      · rw [← iX_kTv h hX (iE_l h t1).1]
        exact t2
      · rw [iX_kTv h hX (iE_l h t1).1]
        exact t2
    have hA : mA τ = mA σ := by
      funext t
      unfold mA
      rw [eh 233 (by decide)]
    unfold kMk
    rw [hin, hA, iX_kTv h hX hg, eh 238 (by decide)]
  refine ⟨⟨h1, h2, ?_, fun t ht => ?_, hTb, ?_, hm, ?_, fun t ht => ?_, fun g g1 g2 => ?_⟩, ?_, hX⟩
  · rw [hF.1 1 (by omega) (by decide) (by decide) (by decide) (by decide) (by decide)]
    exact h3
  · have := h4 t ht
    obtain ⟨q1, q2, q3⟩ := hcn t ht
    unfold aT1 at this ⊢
    rw [q1, q2, q3, hX.2.1.2 t (by omega), hF.1 8 (by omega) (by decide) (by decide) (by decide) (by decide) (by decide), hF.1 9 (by omega) (by decide) (by decide) (by decide) (by decide) (by decide), hF.1 10 (by omega) (by decide) (by decide) (by decide) (by decide) (by decide), hF.1 11 (by omega) (by decide) (by decide) (by decide) (by decide) (by decide), hF.1 12 (by omega) (by decide) (by decide) (by decide) (by decide) (by decide), eh 233 (by decide), eh 234 (by decide), eh 235 (by decide), eh 236 (by decide), eh 237 (by decide), eh 238 (by decide), eh 239 (by decide), eh 240 (by decide), eh 241 (by decide)]
    exact this
  · unfold kMs at hM ⊢
    rw [eK, ec (K + 5) (by omega) (by omega), ec (K + 6) (by omega) (by omega), ec (K + 7) (by omega) (by omega), pk_un (by decide)]
    exact hM
  · obtain ⟨r1, r2, r3, r4, r5, r6, r7, r8⟩ := hR
    have hnw : ¬ kV n st u (st + u) := fun z => by have := hlt _ z; omega
    have hqn := hQ (st + u) (by omega) hnw
    refine ⟨by rw [eK, pk_un (by decide)]; exact r1, fun i hi => ?_, fun t ht => ?_, r4, fun g hg => ?_, fun b hb' => ?_, fun t ht => ?_, fun g hg hgd => ?_⟩
    · rw [ec (K + 2) (by omega) (by omega), ec (K + 3) (by omega) (by omega), ec (K + 4) (by omega) (by omega)]
      exact r2 i hi
    · exact ⟨kV_up (by omega) (r3 t ht).1, (iX_kGd h hX (r3 t ht).1).mpr (r3 t ht).2⟩
    · rw [ec (K + 5) (by omega) (by omega)]
      rcases (hVe g).mpr hg with q | rfl
      · exact r5 g q
      · exact ⟨fun q => absurd q hqn.1, fun q => absurd (r3 _ q).1 hnw⟩
    · rw [ec (K + 7) (by omega) (by omega), r6 b hb']
      refine ⟨fun ⟨t, t1, t2, t3⟩ => ⟨t, t1, ?_, ?_⟩, fun ⟨t, t1, t2, t3⟩ => ⟨t, t1, ?_, ?_⟩⟩
      · rw [(hX.2.2.1 t (r3 t t1).1).1]
        exact t2
      · rw [(hX.2.2.1 t (r3 t t1).1).2.1]
        exact t3
      · rw [← (hX.2.2.1 t (r3 t t1).1).1]
        exact t2
      · rw [← (hX.2.2.1 t (r3 t t1).1).2.1]
        exact t3
    · rw [ec (K + 6) (by omega) (by omega)]
      exact r7 t ht
    · rw [ec (K + 6) (by omega) (by omega), eK, pk_un (show 13 ≠ 3 by decide)]
      rcases (hVe g).mpr hg with q | rfl
      · rw [hmk g q]
        exact r8 g q ((iX_kGd h hX q).mp hgd)
      · exact ⟨fun q => absurd q hqn.2.1, fun q => absurd q hqn.2.2⟩
  · rw [iX_kDp h hX (Or.inl ht)]
    exact hD t ht
  · rw [ec (K + 5) (by omega) (by omega), ec (K + 6) (by omega) (by omega)]
    exact hQ g g1 (fun z => g2 (kV_up (by omega) z))
  · unfold cCn
    have g1 : hcP 256 1928 (fun t => t < n ∧ 3 < fN (τ 2 t)) (cpt τ) (σ 7) (σ 6) := hcP_congr (fun t => ⟨fun q => ⟨q.1, by rw [(hcn t q.1).1]; exact q.2⟩, fun q => ⟨q.1, by rw [← (hcn t q.1).1]; exact q.2⟩⟩) (fun t ht => (hcp t (Or.inl ht.1)).symm) hC
    rw [er 7 (by decide) (by decide), e6]
    refine ⟨g1.1, fun t ht => ?_⟩
    rw [pk_un (by omega)]
    exact g1.2 t ht
end
section
/-! alike: findOrPut, groundOf -/
/-- what a new TERM without number is of -/
def nwP (σ : kS) (n st u k x y : Nat) (a c : Int32) : Prop := kV n st u x ∧ kGd σ x ∧ kDp σ x ≤ 46 ∧ a = nI x ∧ (((k = 4 ∨ k = 5 ∨ ((k = 6 ∨ k = 8) ∧ kAG σ n y)) ∧ kV n st u y ∧ kGd σ y ∧ kDp σ y ≤ 46 ∧ c = nI y) ∨ ((k = 9 ∨ (k = 7 ∧ kAG σ n x)) ∧ c = -1))
def fqP (σ : kS) (K st n u m : Nat) (l : rwT) (k : Nat) (a c : Int32) (r : Option Value) (σ' : kS) : Prop := ∃ u' g, r = some (.int (nI g)) ∧ kV n st u' g ∧ cIs σ' g (nI k) a c ∧ iE σ' K st n u' m l ∧ cCn σ' n ∧ iX σ σ' K st n u u' ∧ u' ≤ u + 1
set_option maxRecDepth 100000 in
set_option maxHeartbeats 4000000 in
theorem mf_findOrPut (L : Nat) (xs : Nat → Int32) (d : Nat) (σ : kS) (K st n u m k x y : Nat) (l : rwT) (a c : Int32) (h : iE σ K st n u m l) (hC : cCn σ n) (hu : u < 576) (hw : nwP σ n st u k x y a c) : kXM kT L xs (d + 3) 49 [.ref K, .int (nI k), .int a, .int c] σ (fqP σ K st n u m l k a c) := by
  have hb := isK_b h.1
  have hn := h.2.1
  have hB := iE_nB h
  obtain ⟨hx, hgx, hdx, rfl, hw⟩ := hw
  have hxl := iE_lt h hx
  unfold kXM
  iterate 4 (refine kX_one rfl ?_)
  refine kX_cal (mf_kFind L xs d σ K st n u m l (nI k) (nI x) c h hC) rfl (Or.inr rfl) rfl (jcall_v rfl rfl rfl (kT_kn hB.1) rfl rfl) rfl (fun r1 σ1 q1 => ?_)
  obtain ⟨hq, rfl⟩ := q1
  rcases hq with ⟨rfl, hno⟩ | ⟨t, t1, rfl, t3⟩
  · iterate 5 (refine kX_one rfl ?_)
    refine kX_getN rfl rfl (kT_kn hB.1) rfl ?_
    refine kX_top (hB.2.2.2.2.2) ?_
    iterate 1 (refine kX_one rfl ?_)
    repeat refine kX_one rfl ?_
    refine kX_if (fun q => ?_) (fun q => ?_)
    · have q := qge q u 576
      omega
    iterate 2 (refine kX_one rfl ?_)
    refine kX_cal (mc_kHas L xs (d + 1) σ K st n u (nI x) hB) rfl (Or.inr rfl) rfl (jcall_v rfl rfl rfl (kT_kn hB.1) rfl rfl) rfl (fun r1 σ1 q1 => ?_)
    obtain ⟨rfl, rfl⟩ := q1
    repeat refine kX_one rfl ?_
    refine kX_ifT (decide_eq_true (isB_ne.mpr (by rcases hx with z | z; exact Or.inl ⟨x, z, rfl⟩; exact Or.inr ⟨x, z.1, z.2, rfl⟩))) ?_
    obtain ⟨sl, s1, s2⟩ := cSl_lt (nI k) (nI x) c
    have hgl : st + u < 1928 := by omega
    iterate 1 (refine kX_one rfl ?_)
    refine kX_getN rfl rfl (kT_kn hB.1) rfl ?_
    refine kX_top (hB.2.2.2.2.1) ?_
    iterate 1 (refine kX_one rfl ?_)
    refine kX_getN rfl rfl (kT_kn hB.1) rfl ?_
    refine kX_top (hB.2.2.2.2.2) ?_
    iterate 1 (refine kX_one rfl ?_)
    refine kX_top (nI_add st u) ?_
    iterate 4 (refine kX_one rfl ?_)
    refine kX_cal (mc_slot L xs (d + 1) σ (nI k) (nI x) c) rfl (Or.inr rfl) rfl rfl rfl (fun r1 σ1 q1 => ?_)
    obtain ⟨rfl, rfl⟩ := q1
    refine kX_top (s2) ?_
    iterate 2 (refine kX_one rfl ?_)
    refine kX_getN rfl rfl (kT_kn hB.1) rfl ?_
    iterate 3 (refine kX_one rfl ?_)
    refine kX_iastN rfl rfl (by decide) (st + u) (by first | rfl | decide) (hgl) ?_
    iterate 1 (refine kX_one rfl ?_)
    refine kX_getN rfl rfl (kT_kn hB.1) rfl ?_
    iterate 3 (refine kX_one rfl ?_)
    refine kX_iastN rfl rfl (by decide) (st + u) (by first | rfl | decide) (hgl) ?_
    iterate 1 (refine kX_one rfl ?_)
    refine kX_getN rfl rfl (kT_kn hB.1) rfl ?_
    iterate 3 (refine kX_one rfl ?_)
    refine kX_iastN rfl rfl (by decide) (st + u) (by first | rfl | decide) (hgl) ?_
    iterate 1 (refine kX_one rfl ?_)
    refine kX_getN rfl rfl (kT_kn hB.1) rfl ?_
    iterate 4 (refine kX_one rfl ?_)
    refine kX_getN rfl rfl (kT_kn hB.1) rfl ?_
    iterate 2 (refine kX_one rfl ?_)
    refine kX_ialdN rfl rfl (by decide) (x) (by first | rfl | decide) (hxl) ?_
    iterate 3 (refine kX_one rfl ?_)
    have hB3 : nB (va_up (va_up (va_up σ 2 (upd (σ 2) (st + u) (nI k))) 3 (upd (σ 3) (st + u) (nI x))) 4 (upd (σ 4) (st + u) c)) K st n u := by
      obtain ⟨a1, a2, a3, a4, a5, a6⟩ := hB
      refine ⟨a1, a2, a3, a4, ?_, ?_⟩
      · rw [up_ne (by omega), up_ne (by omega), up_ne (by omega)]
        exact a5
      · rw [up_ne (by omega), up_ne (by omega), up_ne (by omega)]
        exact a6
    refine kX_cal (mc_kHas L xs (d + 1) _ K st n u c hB3) rfl (Or.inr rfl) rfl (jcall_v rfl rfl rfl (kT_kn hB.1) rfl rfl) rfl (fun r1 σ1 q1 => ?_)
    obtain ⟨rfl, rfl⟩ := q1
    have k129 : ∀ z1 z2 : Int32, (iE (fpS σ K (st + u) sl (nI k) (nI x) c (z1 + z2) u) K st n (u + 1) m l ∧ cCn (fpS σ K (st + u) sl (nI k) (nI x) c (z1 + z2) u) n ∧ iX σ (fpS σ K (st + u) sl (nI k) (nI x) c (z1 + z2) u) K st n u (u + 1)) → kX kT L xs (d + 3) 49 129 [(6, .int (nI sl)), (5, .int (nI (st + u))), (4, .int (-1)), (0, .ref K), (1, .int (nI k)), (2, .int (nI x)), (3, .int c)] [.int z2, .int z1, .int (nI (st + u)), .ref 5] (va_up (va_up (va_up σ 2 (upd (σ 2) (st + u) (nI k))) 3 (upd (σ 3) (st + u) (nI x))) 4 (upd (σ 4) (st + u) c)) (fqP σ K st n u m l k (nI x) c) := by
      intro z1 z2 hok
      iterate 1 (refine kX_one rfl ?_)
      refine kX_iastN rfl rfl (by decide) (st + u) (by first | rfl | decide) (hgl) ?_
      iterate 1 (refine kX_one rfl ?_)
      refine kX_getN rfl rfl (kT_kn hB.1) rfl ?_
      iterate 3 (refine kX_one rfl ?_)
      refine kX_getN rfl rfl (kT_kn hB.1) rfl ?_
      iterate 1 (refine kX_one rfl ?_)
      refine kX_ialdV rfl (kT_k1 hB.1) (by decide) (sl) (by first | rfl | decide) (s1) (by rw [up_ne (by omega), up_ne (by omega), up_ne (by omega), up_ne (by omega)]) ?_
      refine kX_iastN rfl rfl (by decide) (st + u) (by first | rfl | decide) (hgl) ?_
      iterate 1 (refine kX_one rfl ?_)
      refine kX_getN rfl rfl (kT_kn hB.1) rfl ?_
      iterate 2 (refine kX_one rfl ?_)
      refine kX_iastN rfl (kT_k1 hB.1) (by decide) (sl) (by first | rfl | decide) (s1) ?_
      iterate 2 (refine kX_one rfl ?_)
      refine kX_getN rfl rfl (kT_kn hB.1) rfl ?_
      refine kX_top (y := nI u) (by rw [up_ne (by omega), up_ne (by omega), up_ne (by omega), up_ne (by omega), up_ne (by omega), up_ne (by omega)]; exact hB.2.2.2.2.2) ?_
      iterate 2 (refine kX_one rfl ?_)
      refine kX_putN rfl rfl (kT_kn hB.1) rfl (rfl) rfl ?_
      refine kX_st (fpS σ K (st + u) sl (nI k) (nI x) c (z1 + z2) u) ?_ ?_
      · unfold fpS
        rw [← nI_1]
        congr 1
        · congr 1
          rw [up_ne (by omega), up_ne (by omega), up_ne (by omega), up_ne (by omega), up_ne (by omega)]
        · rw [up_ne (by omega), up_ne (by omega), up_ne (by omega), up_ne (by omega), up_ne (by omega), up_ne (by omega)]
          rfl
      iterate 1 (refine kX_one rfl ?_)
      refine kX_ret (i := .ireturn) (len := 1) rfl (Or.inr rfl) rfl ⟨u + 1, st + u, rfl, Or.inr ⟨by omega, by omega⟩, ?_, hok.1, hok.2.1, hok.2.2, Nat.le_refl _⟩
      unfold cIs fpS
      rw [up_ne (show 2 ≠ K by omega), up_ne (show 2 ≠ K + 1 by omega), up_ne (show 3 ≠ K by omega), up_ne (show 3 ≠ K + 1 by omega), up_ne (show 4 ≠ K by omega), up_ne (show 4 ≠ K + 1 by omega)]
      exact ⟨pk_us, pk_us, pk_us⟩
    rcases hw with ⟨hk, hy, hgy, hdy, rfl⟩ | ⟨hk, rfl⟩
    · have hyl := iE_lt h hy
      repeat refine kX_one rfl ?_
      refine kX_ifF (decide_eq_false (isB_ne.mpr (by rcases hy with z | z; exact Or.inl ⟨y, z, rfl⟩; exact Or.inr ⟨y, z.1, z.2, rfl⟩))) ?_
      iterate 1 (refine kX_one rfl ?_)
      refine kX_getN rfl rfl (kT_kn hB.1) rfl ?_
      iterate 2 (refine kX_one rfl ?_)
      refine kX_ialdN rfl rfl (by decide) (y) (by first | rfl | decide) (hyl) ?_
      iterate 1 (refine kX_one rfl ?_)
      refine kX_lv _ rfl rfl rfl (k129 _ _ ?_)
      refine iE_put (x := x) (y := y) h hC hu (by omega) (Or.inr (Or.inl ⟨by omega, rfl, rfl, by unfold kV at hx; omega, by unfold kV at hy; omega⟩)) hx (fun _ => hy) (fun q => ?_) (fun q => by omega) hgx (fun _ => hgy) hdx (fun _ => hdy) s1 s2 ?_ (fun t ht t3 => hno t ⟨ht, t3⟩)
      · rcases hk with hk | hk | hk
        · omega
        · omega
        · exact hk.2
      · rw [if_neg (by omega)]
        rfl
    · repeat refine kX_one rfl ?_
      refine kX_ifT (decide_eq_true (isB_F (fun z => ?_))) ?_
      · rcases z with ⟨j, j1, j2⟩ | ⟨g, g1, g2, g3⟩
        · exact nI_m1 (by omega) j2.symm
        · exact nI_m1 (by omega) g3.symm
      iterate 1 (refine kX_one rfl ?_)
      refine kX_lv _ rfl rfl rfl (k129 _ _ ?_)
      refine iE_put (x := x) (y := 0) h hC hu (by omega) (Or.inr (Or.inr ⟨by omega, rfl, rfl, by unfold kV at hx; omega⟩)) hx (fun _ => by omega) (fun q => by omega) (fun q => ?_) hgx (fun _ => by omega) hdx (fun _ => by omega) s1 s2 ?_ (fun t ht t3 => hno t ⟨ht, t3⟩)
      · rcases hk with hk | hk
        · omega
        · exact hk.2
      · rw [if_pos (by omega)]
        rfl
  · iterate 3 (refine kX_one rfl ?_)
    have htl := iE_lt h t1.1
    repeat refine kX_one rfl ?_
    refine kX_ifT (decide_eq_true (nI_m1 (by omega))) ?_
    repeat refine kX_one rfl ?_
    refine kX_ret (i := .ireturn) (len := 1) rfl (Or.inr rfl) rfl (⟨u, t, rfl, t1.1, t3, h, hC, iX_refl σ K st n u, by omega⟩)
/-- a TERM whose VARIABLES stand for the trees W -/
def tW (σ : kS) (W : Nat → Jvm.Term) (t : Nat) : Jvm.Term := tA (fun u => if σ 2 u = nI 3 then W u else .arg u) vnd (σ 2) (σ 3) (σ 4) t
abbrev kVs (σ : kS) (t : Nat) : List Nat := tvs (σ 2) (σ 3) (σ 4) t
def kSt (σ : kS) (n A vals : Nat) (W : Nat → Jvm.Term) (t : Nat) : Prop := ∀ v ∈ kVs σ t, ∃ p z, p < 6 ∧ z < n ∧ σ 12 v = nI p ∧ σ A (vals + p) = nI z ∧ kGd σ z ∧ kTv σ z = W v ∧ (σ 11 v = nI 0 → σ 2 z = nI 0)
def gR (σ : kS) (n : Nat) : Prop := ∀ t, t < n → σ 8 t = isB (kGd σ t)
theorem tW_gd {σ : kS} {K st n u m : Nat} {l : rwT} {W : Nat → Jvm.Term} (h : iE σ K st n u m l) : ∀ t, kV n st u t → kGd σ t → tW σ W t = kTv σ t := by
  have hV := iE_V h
  intro t
  induction t using Nat.strongRecOn with
  | _ t ih =>
    intro ht hd
    unfold kGd at hd
    rcases (hV t ht).2 with ⟨k, h3, hk, -, -⟩ | ⟨k, x, y, h3, hk, hx, hy, h4, h5, h6, h7⟩ | ⟨k, x, h3, hk, hx, hy, h4, h6⟩
    · unfold tW kTv
      rw [tvl_0 hk h3, tA_0 hk h3]
      rw [tgd_0 hk h3] at hd
      rw [if_neg]
      rw [hk]
      exact nI_ne (of_decide_eq_true hd)
    · rw [tgd_2 hV hk hx hy (by omega) (by omega) h4 h5 h6 h7, Bool.and_eq_true] at hd
      unfold tW kTv
      rw [tvl_2 hV hk hx hy (by omega) (by omega) h4 h5 h6 h7, tA_2 hV hk hx hy (by omega) (by omega) h4 h5 h6 h7]
      have e1 := ih x h4 h6 hd.1
      have e2 := ih y h5 h7 hd.2
      unfold tW kTv at e1 e2
      rw [e1, e2]
    · rw [tgd_1 hV hk hx hy (by omega) (by omega) h4 h6] at hd
      unfold tW kTv
      rw [tvl_1 hV hk hx hy (by omega) (by omega) h4 h6, tA_1 hV hk hx hy (by omega) (by omega) h4 h6]
      have e1 := ih x h4 h6 hd
      unfold tW kTv at e1
      rw [e1]
def kSz (σ : kS) (t : Nat) : Nat := tsz (σ 2) (σ 3) (σ 4) t
/-- what groundOf gives -/
def gP (σ : kS) (K st n u m : Nat) (l : rwT) (W : Nat → Jvm.Term) (t : Nat) (r : Option Value) (σ' : kS) : Prop := ∃ u' g, r = some (.int (nI g)) ∧ kV n st u' g ∧ kGd σ' g ∧ kTv σ' g = tW σ W t ∧ kDp σ' g ≤ kDp σ t + 23 ∧ (kAG σ n t → kAG σ' n g) ∧ iE σ' K st n u' m l ∧ cCn σ' n ∧ iX σ σ' K st n u u' ∧ u' + 1 ≤ u + kSz σ t
theorem iX_gR {σ τ : kS} {K st n u u' m : Nat} {l : rwT} (h : iE σ K st n u m l) (hX : iX σ τ K st n u u') (hg : gR σ n) : gR τ n := by
  intro t ht
  rw [nF_gr h.1 hX.2.1.1, hg t ht]
  exact isB_iff (iX_kGd h hX (Or.inl ht)).symm
theorem iX_oth {σ τ : kS} {K st n u u' c : Nat} (hX : iX σ τ K st n u u') (hK : isK K st) (hc : c < K ∨ K + 9 ≤ c) (hc2 : c = 1 ∨ 7 ≤ c) : τ c = σ c := hX.2.1.1.1 c hc (by omega) (by omega) (by omega) (by omega) (by omega)
theorem iX_kSt {σ τ : kS} {K st n u u' m A vals t : Nat} {l : rwT} {W : Nat → Jvm.Term} (h : iE σ K st n u m l) (hX : iX σ τ K st n u u') (ht : kV n st u t) (hA2 : (A < K ∨ K + 9 ≤ A) ∧ 13 ≤ A) (hs : kSt σ n A vals W t) : kSt τ n A vals W t := by
  have hb := isK_b h.1
  have hv : kVs τ t = kVs σ t := tA_congr (iE_V h) (fun t ht => by obtain ⟨a, b, c⟩ := hX.2.2.1 t ht; exact ⟨a, b, c, by rw [a]⟩) t ht
  intro v hvt
  rw [hv] at hvt
  obtain ⟨p, z, z1, z2, z3, z4, z5, z6, z7⟩ := hs v hvt
  refine ⟨p, z, z1, z2, ?_, ?_, (iX_kGd h hX (Or.inl z2)).mpr z5, (iX_kTv h hX (Or.inl z2)).trans z6, fun q => ?_⟩
  · rw [iX_oth hX h.1 (by omega) (by decide)]
    exact z3
  · rw [iX_oth hX h.1 hA2.1 (by omega)]
    exact z4
  · rw [iX_oth hX h.1 (by omega) (by decide)] at q
    rw [(hX.2.2.1 z (Or.inl z2)).1]
    exact z7 q
theorem iX_tW {σ τ : kS} {K st n u u' m t : Nat} {l : rwT} {W : Nat → Jvm.Term} (h : iE σ K st n u m l) (hX : iX σ τ K st n u u') (ht : kV n st u t) : tW τ W t = tW σ W t := tA_congr (iE_V h) (fun t ht => by obtain ⟨a, b, c⟩ := hX.2.2.1 t ht; exact ⟨a, b, c, by rw [a]⟩) t ht
theorem iX_kSz {σ τ : kS} {K st n u u' m t : Nat} {l : rwT} (h : iE σ K st n u m l) (hX : iX σ τ K st n u u') (ht : kV n st u t) : kSz τ t = kSz σ t := by unfold kSz tsz; exact iX_A h hX ht
theorem iX_AG {σ τ : kS} {K st n u u' t : Nat} (hK : isK K st) (hX : iX σ τ K st n u u') : kAG τ n t ↔ kAG σ n t := by
  have hb := isK_b hK
  unfold kAG
  refine and_congr_right (fun ht => ?_)
  rw [(hX.2.2.1 t (Or.inl ht)).1, iX_oth (c := 11) hX hK (by omega) (by decide)]
theorem kSz_pos {σ : kS} {K st n u m t : Nat} {l : rwT} (h : iE σ K st n u m l) (ht : kV n st u t) : 1 ≤ kSz σ t := by
  have hV := iE_V h
  unfold kSz tsz
  rcases (hV t ht).2 with ⟨k, h3, hk, -, -⟩ | ⟨k, x, y, h3, hk, hx, hy, h4, h5, h6, h7⟩ | ⟨k, x, h3, hk, hx, hy, h4, h6⟩
  · rw [tA_0 hk h3]
    exact Nat.le_refl _
  · rw [tA_2 hV hk hx hy (by omega) (by omega) h4 h5 h6 h7]
    omega
  · rw [tA_1 hV hk hx hy (by omega) (by omega) h4 h6]
    omega
end
