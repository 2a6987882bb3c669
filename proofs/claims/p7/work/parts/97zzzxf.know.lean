/-! alike: takeApart -/
theorem nnI_nI {a : Nat} (ha : a < 2147483648) : nnI (nI a) = nI a := if_neg (nI_m1 ha)
theorem kTr_c {σ τ : kS} (e : eqC σ τ kCl) (l : rwT) : kTr τ l = kTr σ l := by
  unfold kTr
  rw [kTv_c e]
theorem mA_c {σ τ : kS} (e : eqC σ τ kCl) : mA τ = mA σ := by
  funext t
  unfold mA
  rw [e 233 (by decide)]
theorem nP_c {σ τ : kS} {K st : Nat} (hK : isK K st) (h : nP σ τ K) : eqC σ τ kCl := kFr_c hK h.1 (by decide)
theorem kTr_I {σ : kS} {l : rwT} : trI (kTr σ l) = kIn σ l := by
  funext g
  refine propext ⟨?_, ?_⟩
  · rintro ⟨q, hq, e⟩
    obtain ⟨p, hp, rfl⟩ := List.mem_map.mp hq
    exact ⟨p.1, ⟨p, hp, rfl⟩, e⟩
  · rintro ⟨t, ⟨p, hp, rfl⟩, e⟩
    exact ⟨_, List.mem_map.mpr ⟨p, hp, rfl⟩, e⟩
theorem kHp_t {σ : kS} {K st n u m y : Nat} {l : rwT} (h : iE σ K st n u m l) (h7 : kV n st u y) (h0 : σ 2 y = nI 0) : kHp σ l y ↔ vnh (σ 238) (.arg y) ∨ kIn σ l (.length (.arg y)) := by
  have e0 : tvl (σ 2) (σ 3) (σ 4) y = .arg y := tvl_0 h0 (by decide)
  rw [vnh_arg]
  refine or_congr Iff.rfl ⟨fun ⟨t, t1, t2, t3⟩ => ?_, fun ⟨t, t1, t2⟩ => ?_⟩
  · refine ⟨t, t1, ?_⟩
    have hy9 := (iE_V h y h7).1
    rcases (iE_V h t (iE_l h t1).1).2 with ⟨k, z3, zk, z4, z5⟩ | ⟨k, a, b, z3, zk, -⟩ | ⟨k, a, z3, zk, za, z5, z6, z7⟩
    · have := nI_inj (zk.symm.trans t2)
      omega
    · have := nI_inj (zk.symm.trans t2)
      omega
    · have ha9 := (iE_V h a z7).1
      obtain rfl : a = y := nI_inj (za.symm.trans t3)
      obtain rfl : k = 7 := nI_inj (zk.symm.trans t2)
      have e2 : kTv σ t = _ := tvl_1 (iE_V h) zk za z5 (by omega) (by omega) z6 z7
      rw [e2, e0]
      rfl
  · obtain ⟨a, b, -⟩ := tvl_priv (iE_V h) (iE_l h t1).1 t2
    exact ⟨t, t1, a, b⟩
theorem rwA_c {l : rwT} {t : Nat} {w p : Int32} : (rwI l t ∧ (rwA l t w p).length = l.length) ∨ (¬ rwI l t ∧ (rwA l t w p).length = l.length + 1) := by
  unfold rwA
  by_cases q : rwI l t
  · rw [if_pos q]
    exact Or.inl ⟨q, rfl⟩
  · rw [if_neg q]
    exact Or.inr ⟨q, by simp⟩
theorem rwA_B {l : rwT} {t : Nat} {w p : Int32} : isB (¬ rwI l t) = isB (l.length < (rwA l t w p).length) := by
  refine isB_iff ?_
  rcases rwA_c (l := l) (t := t) (w := w) (p := p) with ⟨a, b⟩ | ⟨a, b⟩
  · exact ⟨fun z => absurd a z, fun z => by omega⟩
  · exact ⟨fun _ => by omega, fun _ => a⟩
theorem rwA_le {l : rwT} {t : Nat} {w p : Int32} : l.length ≤ (rwA l t w p).length := by
  rcases rwA_c (l := l) (t := t) (w := w) (p := p) with ⟨a, b⟩ | ⟨a, b⟩
  · omega
  · omega
/-- a row after takeApartAt -/
def tkP (σ : kS) (K st n u m : Nat) (l : rwT) (i : Nat) (r : Option Value) (σ' : kS) : Prop := ∃ l', r = some (.int (isB (l.length < l'.length))) ∧ l.length ≤ l'.length ∧ iE σ' K st n u m l' ∧ σ' K 13 = 0 ∧ nP σ σ' K ∧ kTr σ' l' = trK (mA σ) (σ 238) (kTr σ l) i
set_option maxRecDepth 100000 in
set_option maxHeartbeats 4000000 in
theorem mf_takeAt (L : Nat) (xs : Nat → Int32) (d : Nat) (σ : kS) (K st n u m i : Nat) (l : rwT) (h : iE σ K st n u m l) (hw : σ K 13 = 0) (hi : i < l.length) : kXM kT L xs (d + 52) 53 [.ref K, .int (nI i)] σ (tkP σ K st n u m l i) := by
  have hb := isK_b h.1
  have hl7 := (iE_len h).2
  have hrw := h.2.2.2.2.2.2.2.1
  obtain ⟨g, hgi⟩ : ∃ g, (l[i]'hi).1 = g := ⟨_, rfl⟩
  obtain ⟨hg, hd⟩ := iE_l h ⟨l[i]'hi, List.getElem_mem hi, hgi⟩
  have hgl := iE_lt h hg
  have hg2 : σ (K + 2) i = nI g := by rw [← hgi]; exact (hrw.2.1 i hi).1
  have hV := iE_V h
  have hM : (kTr σ l)[i]? = some (kTv σ g, (l[i]'hi).2.1, nnI (l[i]'hi).2.2) := by
    unfold kTr
    rw [List.getElem?_map, List.getElem?_eq_getElem hi, ← hgi]
    rfl
  have hii : nnI (nI i) = nI i := nnI_nI (by omega)
  have hz : nP σ σ K := nP_refl (iE_nR h)
  have hAG : ∀ y, y < g → kV n st u y → kAG σ n y → kGd σ y → σ 2 y = nI 0 := fun y _ _ ha hgd => by
    rcases ha.2 with e | ⟨e, -⟩
    · exact e
    · unfold kGd at hgd
      rw [tgd_0 e (by decide)] at hgd
      exact absurd rfl (of_decide_eq_true hgd)
  have done0 : trK (mA σ) (σ 238) (kTr σ l) i = kTr σ l → tkP σ K st n u m l i (some (.int 0)) σ := fun e => ⟨l, by rw [isB_F (by omega)], Nat.le_refl _, h, hw, hz, e.symm⟩
  unfold kXM
  iterate 1 (refine kX_one rfl ?_)
  refine kX_getN rfl rfl (kT_kn h.1) rfl ?_
  iterate 1 (refine kX_one rfl ?_)
  refine kX_ialdV rfl (kT_k2 h.1 (Or.inl rfl)) (by decide) (i) (by first | rfl | decide) (by omega) (hg2) ?_
  iterate 2 (refine kX_one rfl ?_)
  refine kX_getN rfl rfl (kT_kn h.1) rfl ?_
  iterate 2 (refine kX_one rfl ?_)
  refine kX_ialdN rfl rfl (by decide) (g) (by first | rfl | decide) (hgl) ?_
  iterate 2 (refine kX_one rfl ?_)
  refine kX_getN rfl rfl (kT_kn h.1) rfl ?_
  iterate 2 (refine kX_one rfl ?_)
  refine kX_ialdN rfl rfl (by decide) (g) (by first | rfl | decide) (hgl) ?_
  iterate 4 (refine kX_one rfl ?_)
  refine kX_getN rfl rfl (kT_kn h.1) rfl ?_
  iterate 2 (refine kX_one rfl ?_)
  refine kX_ialdN rfl rfl (by decide) (g) (by first | rfl | decide) (hgl) ?_
  rcases (hV g hg).2 with ⟨k, h3, hk, -, -⟩ | ⟨k, x, y, h3, hk, hx, hy, h4, h5, h6, h7⟩ | ⟨k, x, h3, hk, hx, hy, h4, h6⟩
  · have e : kTv σ g = .arg g := tvl_0 hk h3
    have ht : trK (mA σ) (σ 238) (kTr σ l) i = kTr σ l := by
      unfold trK
      rw [hM, e]
    refine kX_tabO rfl (Or.inl (by rw [hk, nI_toInt (by omega)]; omega)) rfl ?_
    repeat refine kX_one rfl ?_
    refine kX_ret (i := .ireturn) (len := 1) rfl (Or.inr rfl) rfl (done0 ht)
  · have e : kTv σ g = _ := tvl_2 hV hk hx hy (by omega) (by omega) h4 h5 h6 h7
    have hd2 := hd
    unfold kGd at hd2
    rw [tgd_2 hV hk hx hy (by omega) (by omega) h4 h5 h6 h7, Bool.and_eq_true] at hd2
    have hxl := iE_lt h h6
    have hyl := iE_lt h h7
    have hdg : kDp σ g ≤ 47 := by
      rcases hg with z | z
      · have := h.2.2.2.2.2.2.2.2.1 g z
        omega
      · exact (h.2.2.2.2.1.2.2.2.2.1 g z.1 z.2).2.2
    have hdx := tdp_2 hV hk hx hy (by omega) (by omega) h4 h5 h6 h7
    have hdy1 : kDp σ y + 0 ≤ 48 := by unfold kDp at *; omega
    refine kX_top (hk) ?_
    rcases h3 with rfl | rfl | ⟨h3, ha⟩
    · have ht : trK (mA σ) (σ 238) (kTr σ l) i = trA (trA (kTr σ l) (kTv σ x) (nI 2) (nI i)) (kTv σ y) (nI 3) (nI i) := by
        unfold trK
        rw [hM, e]
        rfl
      iterate 3 (refine kX_one rfl ?_)
      refine kX_top (hx) ?_
      iterate 2 (refine kX_one rfl ?_)
      refine kX_cal (mf_add L xs (d + 49) σ K st n u m x l (nI 2) (nI i) h h6 hd2.1 hw) rfl (Or.inr rfl) rfl (jcall_v rfl rfl rfl (kT_kn h.1) rfl rfl) rfl (fun r1 σ1 q1 => ?_)
      obtain ⟨rfl, hE1, hw1, hP1⟩ := q1
      have hc1 := nP_c h.1 hP1
      iterate 3 (refine kX_one rfl ?_)
      refine kX_top (hy) ?_
      iterate 2 (refine kX_one rfl ?_)
      refine kX_cal (mf_add L xs (d + 49) σ1 K st n u m y (rwA l x (nI 2) (nI i)) (nI 3) (nI i) hE1 h7 (by unfold kGd; rw [hc1 2 (by decide), hc1 3 (by decide), hc1 4 (by decide)]; exact hd2.2) hw1) rfl (Or.inr rfl) rfl (jcall_v rfl rfl rfl (kT_kn h.1) rfl rfl) rfl (fun r1 σ2 q1 => ?_)
      obtain ⟨rfl, hE2, hw2, hP2⟩ := q1
      have hle1 := rwA_le (l := l) (t := x) (w := nI 2) (p := nI i)
      have hle2 := rwA_le (l := rwA l x (nI 2) (nI i)) (t := y) (w := nI 3) (p := nI i)
      have fin : kTr σ2 (rwA (rwA l x (nI 2) (nI i)) y (nI 3) (nI i)) = trK (mA σ) (σ 238) (kTr σ l) i := by
        rw [ht, kTr_c (nP_c h.1 hP2), kTr_add hE1 h7, kTr_c hc1, kTr_add h h6, kTv_c hc1, hii]
      have fin2 : ∀ v, isB (l.length < (rwA (rwA l x (nI 2) (nI i)) y (nI 3) (nI i)).length) = v → tkP σ K st n u m l i (some (.int v)) σ2 := fun v hv => ⟨_, by rw [hv], by omega, hE2, hw2, nP_trans hP1 hP2, fin⟩
      rcases rwA_c (l := rwA l x (nI 2) (nI i)) (t := y) (w := nI 3) (p := nI i) with ⟨b1, b2⟩ | ⟨b1, b2⟩
      · repeat refine kX_one rfl ?_
        refine kX_ifF (decide_eq_false (fun z => z (isB_F (fun z => z b1)))) ?_
        iterate 1 (refine kX_one rfl ?_)
        rcases rwA_c (l := l) (t := x) (w := nI 2) (p := nI i) with ⟨a1, a2⟩ | ⟨a1, a2⟩
        · repeat refine kX_one rfl ?_
          refine kX_ifT (decide_eq_true (isB_F (fun z => z a1))) ?_
          repeat refine kX_one rfl ?_
          refine kX_ret (i := .ireturn) (len := 1) rfl (Or.inr rfl) rfl (fin2 0 (isB_F (by omega)))
        · repeat refine kX_one rfl ?_
          refine kX_ifF (decide_eq_false (isB_ne.mpr a1)) ?_
          repeat refine kX_one rfl ?_
          refine kX_ret (i := .ireturn) (len := 1) rfl (Or.inr rfl) rfl (fin2 1 (isB_T (by omega)))
      · repeat refine kX_one rfl ?_
        refine kX_ifT (decide_eq_true (isB_ne.mpr b1)) ?_
        repeat refine kX_one rfl ?_
        refine kX_ret (i := .ireturn) (len := 1) rfl (Or.inr rfl) rfl (fin2 1 (isB_T (by omega)))
    · have ht : trK (mA σ) (σ 238) (kTr σ l) i = cit (kMk σ l y) (trA (kTr σ l) (kTv σ x) (nI 4) (nI i)) (kTr σ l) := by
        unfold trK
        rw [hM, e]
        show cit (vmk (trI (kTr σ l)) (mA σ) (σ 238) _) _ _ = _
        rw [kTr_I]
        rfl
      iterate 3 (refine kX_one rfl ?_)
      refine kX_top (hy) ?_
      iterate 1 (refine kX_one rfl ?_)
      refine kX_cal (mf_canMake L xs K st n u m l 49 d 0 σ y rfl hdy1 h h7 hd2.2) rfl (Or.inr rfl) rfl (jcall_v rfl rfl rfl (kT_kn h.1) rfl rfl) rfl (fun r1 σ1 q1 => ?_)
      obtain ⟨rfl, M, hM1, hE1⟩ := q1
      have hP1 : nP σ σ1 K := by rw [hM1]; exact nP_make (iE_nR h)
      have hc1 := nP_c h.1 hP1
      have hw1 : σ1 K 13 = 0 := by rw [hM1, up_ne (by omega)]; exact hw
      repeat refine kX_one rfl ?_
      refine kX_if (fun q => ?_) (fun q => ?_)
      · have q : ¬ kMk σ l y := fun z => isB_ne.mpr z (qeq q)
        repeat refine kX_one rfl ?_
        refine kX_ret (i := .ireturn) (len := 1) rfl (Or.inr rfl) rfl (⟨l, rF (by omega), Nat.le_refl _, hE1, hw1, hP1, by rw [kTr_c hc1, ht, cit_F q]⟩)
      · have q : kMk σ l y := isB_ne.mp (qeqF q)
        iterate 2 (refine kX_one rfl ?_)
        refine kX_top (hx) ?_
        iterate 2 (refine kX_one rfl ?_)
        refine kX_cal (mf_add L xs (d + 49) σ1 K st n u m x l (nI 4) (nI i) hE1 h6 (by unfold kGd; rw [hc1 2 (by decide), hc1 3 (by decide), hc1 4 (by decide)]; exact hd2.1) hw1) rfl (Or.inr rfl) rfl (jcall_v rfl rfl rfl (kT_kn h.1) rfl rfl) rfl (fun r1 σ2 q1 => ?_)
        obtain ⟨rfl, hE2, hw2, hP2⟩ := q1
        have fin : kTr σ2 (rwA l x (nI 4) (nI i)) = trK (mA σ) (σ 238) (kTr σ l) i := by
          rw [ht, cit_T q, kTr_c (nP_c h.1 hP2), kTr_add hE1 h6, kTr_c hc1, kTv_c hc1, hii]
        have fin2 : ∀ v, isB (l.length < (rwA l x (nI 4) (nI i)).length) = v → tkP σ K st n u m l i (some (.int v)) σ2 := fun v hv => ⟨_, by rw [hv], rwA_le, hE2, hw2, nP_trans hP1 hP2, fin⟩
        rcases rwA_c (l := l) (t := x) (w := nI 4) (p := nI i) with ⟨b1, b2⟩ | ⟨b1, b2⟩
        · repeat refine kX_one rfl ?_
          refine kX_ifT (decide_eq_true (isB_F (fun z => z b1))) ?_
          repeat refine kX_one rfl ?_
          refine kX_ret (i := .ireturn) (len := 1) rfl (Or.inr rfl) rfl (fin2 0 (isB_F (by omega)))
        · repeat refine kX_one rfl ?_
          refine kX_ifF (decide_eq_false (isB_ne.mpr b1)) ?_
          repeat refine kX_one rfl ?_
          refine kX_ret (i := .ireturn) (len := 1) rfl (Or.inr rfl) rfl (fin2 1 (isB_T (by omega)))
    · have hy0 := hAG y h5 h7 ha hd2.2
      have e0 : tvl (σ 2) (σ 3) (σ 4) y = .arg y := tvl_0 hy0 (by decide)
      rcases h3 with rfl | rfl
      · have ht : trK (mA σ) (σ 238) (kTr σ l) i = cit (kHp σ l y) (trA (kTr σ l) (kTv σ x) (nI 5) (nI i)) (kTr σ l) := by
          unfold trK
          rw [hM, e, e0]
          show cit (vnh (σ 238) (.arg y) ∨ trI (kTr σ l) (.length (.arg y))) _ _ = _
          rw [kTr_I, ← propext (kHp_t h h7 hy0)]
          rfl
        iterate 3 (refine kX_one rfl ?_)
        refine kX_top (hy) ?_
        refine kX_cal (mf_hasPriv L xs (d + 50) σ K st n u m y l h ha.1 hy0) rfl (Or.inr rfl) rfl (jcall_v rfl rfl rfl (kT_kn h.1) rfl rfl) rfl (fun r1 σ1 q1 => ?_)
        obtain ⟨rfl, rfl⟩ := q1
        repeat refine kX_one rfl ?_
        refine kX_if (fun q => ?_) (fun q => ?_)
        · have q : ¬ kHp σ l y := fun z => isB_ne.mpr z (qeq q)
          repeat refine kX_one rfl ?_
          refine kX_ret (i := .ireturn) (len := 1) rfl (Or.inr rfl) rfl (done0 (by rw [ht, cit_F q]))
        · have q : kHp σ l y := isB_ne.mp (qeqF q)
          iterate 2 (refine kX_one rfl ?_)
          refine kX_top (hx) ?_
          iterate 2 (refine kX_one rfl ?_)
          refine kX_cal (mf_add L xs (d + 49) σ K st n u m x l (nI 5) (nI i) h h6 hd2.1 hw) rfl (Or.inr rfl) rfl (jcall_v rfl rfl rfl (kT_kn h.1) rfl rfl) rfl (fun r1 σ2 q1 => ?_)
          obtain ⟨rfl, hE2, hw2, hP2⟩ := q1
          have fin : kTr σ2 (rwA l x (nI 5) (nI i)) = trK (mA σ) (σ 238) (kTr σ l) i := by
            rw [ht, cit_T q, kTr_c (nP_c h.1 hP2), kTr_add h h6, hii]
          have fin2 : ∀ v, isB (l.length < (rwA l x (nI 5) (nI i)).length) = v → tkP σ K st n u m l i (some (.int v)) σ2 := fun v hv => ⟨_, by rw [hv], rwA_le, hE2, hw2, hP2, fin⟩
          rcases rwA_c (l := l) (t := x) (w := nI 5) (p := nI i) with ⟨b1, b2⟩ | ⟨b1, b2⟩
          · repeat refine kX_one rfl ?_
            refine kX_ifT (decide_eq_true (isB_F (fun z => z b1))) ?_
            repeat refine kX_one rfl ?_
            refine kX_ret (i := .ireturn) (len := 1) rfl (Or.inr rfl) rfl (fin2 0 (isB_F (by omega)))
          · repeat refine kX_one rfl ?_
            refine kX_ifF (decide_eq_false (isB_ne.mpr b1)) ?_
            repeat refine kX_one rfl ?_
            refine kX_ret (i := .ireturn) (len := 1) rfl (Or.inr rfl) rfl (fin2 1 (isB_T (by omega)))
      · have ht : trK (mA σ) (σ 238) (kTr σ l) i = trA (kTr σ l) (kTv σ x) (nI 6) (nI i) := by
          unfold trK
          rw [hM, e]
          rfl
        iterate 3 (refine kX_one rfl ?_)
        refine kX_top (hx) ?_
        iterate 2 (refine kX_one rfl ?_)
        refine kX_cal (mf_add L xs (d + 49) σ K st n u m x l (nI 6) (nI i) h h6 hd2.1 hw) rfl (Or.inr rfl) rfl (jcall_v rfl rfl rfl (kT_kn h.1) rfl rfl) rfl (fun r1 σ2 q1 => ?_)
        obtain ⟨rfl, hE2, hw2, hP2⟩ := q1
        have fin : kTr σ2 (rwA l x (nI 6) (nI i)) = trK (mA σ) (σ 238) (kTr σ l) i := by
          rw [ht, kTr_c (nP_c h.1 hP2), kTr_add h h6, hii]
        refine kX_ret (i := .ireturn) (len := 1) rfl (Or.inr rfl) (jend_b rfl (isB_01 _)) (⟨_, by rw [rwA_B (w := nI 6) (p := nI i)], rwA_le, hE2, hw2, hP2, fin⟩)
  · have e : kTv σ g = _ := tvl_1 hV hk hx hy (by omega) (by omega) h4 h6
    have ht : trK (mA σ) (σ 238) (kTr σ l) i = kTr σ l := by
      unfold trK
      rw [hM, e]
      rcases h3 with rfl | ⟨rfl, -⟩ <;> rfl
    rcases h3 with rfl | ⟨rfl, -⟩
    · refine kX_tabO rfl (Or.inr (by rw [hk, nI_toInt (by omega)]; omega)) rfl ?_
      repeat refine kX_one rfl ?_
      refine kX_ret (i := .ireturn) (len := 1) rfl (Or.inr rfl) rfl (done0 ht)
    · refine kX_top (hk) ?_
      repeat refine kX_one rfl ?_
      refine kX_ret (i := .ireturn) (len := 1) rfl (Or.inr rfl) rfl (done0 ht)
