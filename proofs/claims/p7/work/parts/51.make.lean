/-! the reference: what the row makes -/
def mR (σ : kS) (l : rwT) (g : Jvm.Term) : Prop := ∃ t, rwI l t ∧ tvl (σ 233) (σ 234) (σ 235) t = g
def mA (σ : kS) (t : Nat) : Prop := t < 200 ∧ σ 233 t = nI 0
def mMk (σ : kS) (l : rwT) (t : Nat) : Prop := tgd (σ 233) (σ 234) (σ 235) t = true ∧ vmk (mR σ l) (mA σ) (σ 238) (tvl (σ 233) (σ 234) (σ 235) t)
/-- TERMS of the table that are GROUND -/
def mvG (σ : kS) (n b t : Nat) : Prop := mv n b t ∧ tgd (σ 233) (σ 234) (σ 235) t = true
theorem mTb_inj {σ : kS} {n b t u : Nat} (h : mTb σ n b) (ht : mv n b t) (hu : mv n b u) (e : tvl (σ 233) (σ 234) (σ 235) t = tvl (σ 233) (σ 234) (σ 235) u) : t = u := tvl_inj h.2.2.2.2.2.1.1 h.2.2.2.2.2.1.2.2 t u ht hu e
theorem mR_iff {σ : kS} {n b : Nat} {l : rwT} (h : mTb σ n b) (hl : ∀ t, rwI l t → mvG σ n b t) {t : Nat} (ht : mv n b t) : mR σ l (tvl (σ 233) (σ 234) (σ 235) t) ↔ rwI l t :=
  ⟨fun ⟨u, hu, e⟩ => by rw [← mTb_inj h (hl u hu).1 ht e]; exact hu, fun q => ⟨t, q, rfl⟩⟩
/-- the PRIVATE of an AGENT among the TERMS -/
theorem tvl_priv {V AG : Nat → Prop} {K F S : Nat → Int32} (hV : ∀ t, V t → t < 100000 ∧ tOk V AG K F S t) {t y : Nat} (ht : V t) (e : tvl K F S t = .length (.arg y)) : K t = nI 7 ∧ F t = nI y ∧ S t = -1 := by
  rcases (hV t ht).2 with ⟨k, h3, hk, -, -⟩ | ⟨k, x, z, h3, hk, hx, hy, h4, h5, h6, h7⟩ | ⟨k, x, h3, hk, hx, hy, h4, h6⟩
  · rw [tvl_0 hk h3] at e
    cases e
  · rw [tvl_2 hV hk hx hy (by omega) (by omega) h4 h5 h6 h7] at e
    unfold vnd at e
    dsimp only at e
    repeat' split at e
    all_goals cases e
  · rw [tvl_1 hV hk hx hy (by omega) (by omega) h4 h6] at e
    unfold vnd at e
    dsimp only at e
    split at e
    · next e7 =>
      injection e with e
      subst e7
      refine ⟨hk, ?_, hy⟩
      rcases (hV x h6).2 with ⟨k, h3, hk, -, -⟩ | ⟨k, x', z, h3, hk, hx', hy', h4', h5, h6', h7⟩ | ⟨k, x', h3, hk, hx', hy', h4', h6'⟩
      · rw [tvl_0 hk h3] at e
        rw [hx, Jvm.Term.arg.inj e]
      · rw [tvl_2 hV hk hx' hy' (by omega) (by omega) h4' h5 h6' h7] at e
        unfold vnd at e
        dsimp only at e
        repeat' split at e
        all_goals cases e
      · rw [tvl_1 hV hk hx' hy' (by omega) (by omega) h4' h6'] at e
        unfold vnd at e
        dsimp only at e
        repeat' split at e
        all_goals cases e
    · cases e
set_option maxRecDepth 100000 in
set_option maxHeartbeats 4000000 in
theorem mr_hasPrivate (L : Nat) (xs : Nat → Int32) (d : Nat) (σ : kS) (n b : Nat) (l : rwT) (y : Nat) (h : mTb σ n b) (hq : mRq σ (mvG σ n b) l) (hy : y < n) (hk : σ 233 y = nI 0) : kXM kT L xs (d + 2) 180 [.ref 232, .int (nI y)] σ (fun r σ' => r = some (.int (isB (vnh (σ 238) (.arg y) ∨ mR σ l (.length (.arg y))))) ∧ σ = σ') := by
  have hn := h.1
  have hb := h.2.2.1
  have hV := h.2.2.2.2.2.1.1
  unfold kXM
  repeat refine kX_one rfl ?_
  refine kX_cal (mTb_find h L xs d 7 (nI y) (-1) (by decide) (by decide)) rfl (Or.inr rfl) rfl rfl rfl (fun r1 σ1 q1 => ?_)
  obtain ⟨rfl, q1⟩ := q1
  have e1 : ∀ t, mv n b t → (mIs σ t (nI 7) (nI y) (-1) ↔ tvl (σ 233) (σ 234) (σ 235) t = .length (.arg y)) := fun t ht => by
    constructor
    · rintro ⟨i1, i2, i3⟩
      have hyv : mv n b y := Or.inl hy
      have hlt : y < t := by
        rcases (hV t ht).2 with ⟨k, h3, hk', -, -⟩ | ⟨k, x, z, h3, hk', hx, hz, h4, h5, h6, h7⟩ | ⟨k, x, h3, hk', hx, hz, h4, h6⟩
        · have := nI_inj (i1.symm.trans hk')
          omega
        · have := nI_inj (i1.symm.trans hk')
          omega
        · have : y = x := nI_inj (i2.symm.trans hx) (by omega) (by have := (hV x h6).1; omega)
          omega
      rw [tvl_1 hV i1 i2 i3 (by decide) (by decide) hlt hyv, tvl_0 hk (by decide)]
      rfl
    · intro e
      exact tvl_priv hV ht e
  have hv0 : vnh (σ 238) (.arg y) ↔ σ 238 y = 0 := ⟨fun ⟨x, e, hx⟩ => by rw [Jvm.Term.arg.inj e]; exact hx, fun q => ⟨y, rfl, q⟩⟩
  rcases q1 with ⟨rfl, hno⟩ | ⟨t, rfl, ht, hi⟩
  · have hR : ¬ mR σ l (.length (.arg y)) := fun ⟨t, ht, e⟩ => hno t (hq.2.2.1 t ht).1 ((e1 t (hq.2.2.1 t ht).1).mpr e)
    repeat refine kX_one rfl ?_
    refine kX_baldN rfl rfl (by decide) (y) (by first | rfl | decide) (by omega) ?_
    repeat refine kX_one rfl ?_
    refine kX_if (fun q => ?_) (fun q => ?_)
    · have q := qeq q
      repeat refine kX_one rfl ?_
      refine kX_ret (i := .ireturn) (len := 1) rfl (Or.inr rfl) rfl (⟨by rw [isB_T (Or.inl (hv0.mpr q))]; rfl, rfl⟩)
    · have q := qeqF q
      repeat refine kX_one rfl ?_
      refine kX_ret (i := .ireturn) (len := 1) rfl (Or.inr rfl) rfl (⟨by rw [isB_F (fun z => z.elim (fun z => q (hv0.mp z)) hR)]; rfl, rfl⟩)
  · have ht1 : t < 1000 := by unfold mv at ht; omega
    have hR : mR σ l (.length (.arg y)) ↔ rwI l t := by
      rw [← (e1 t ht).mp hi]
      exact mR_iff h hq.2.2.1 ht
    repeat refine kX_one rfl ?_
    refine kX_baldN rfl rfl (by decide) (y) (by first | rfl | decide) (by omega) ?_
    repeat refine kX_one rfl ?_
    refine kX_if (fun q => ?_) (fun q => ?_)
    · have q := qeq q
      repeat refine kX_one rfl ?_
      refine kX_ret (i := .ireturn) (len := 1) rfl (Or.inr rfl) rfl (⟨by rw [isB_T (Or.inl (hv0.mpr q))]; rfl, rfl⟩)
    · have q := qeqF q
      iterate 1 (refine kX_one rfl ?_)
      repeat refine kX_one rfl ?_
      refine kX_ifF (decide_eq_false (nI_pos (by omega))) ?_
      repeat refine kX_one rfl ?_
      refine kX_baldN rfl rfl (by decide) (t) (by first | rfl | decide) (ht1) ?_
      rw [hq.2.2.2.1 t ht1]
      repeat refine kX_one rfl ?_
      refine kX_if (fun q2 => ?_) (fun q2 => ?_)
      · have q2 : ¬ rwI l t := fun z => isB_ne.mpr z (qeq q2)
        repeat refine kX_one rfl ?_
        refine kX_ret (i := .ireturn) (len := 1) rfl (Or.inr rfl) rfl (⟨by rw [isB_F (fun z => z.elim (fun z => q (hv0.mp z)) (fun z => q2 (hR.mp z)))]; rfl, rfl⟩)
      · have q2 : rwI l t := isB_ne.mp (qeqF q2)
        repeat refine kX_one rfl ?_
        refine kX_ret (i := .ireturn) (len := 1) rfl (Or.inr rfl) rfl (⟨by rw [isB_T (Or.inr (hR.mpr q2))]; rfl, rfl⟩)
theorem tgd_2 {V AG : Nat → Prop} {K F S : Nat → Int32} (hV : ∀ t, V t → t < 100000 ∧ tOk V AG K F S t) {t k x y : Nat} (hk : K t = nI k) (hx : F t = nI x) (hy : S t = nI y) (h3 : 3 < k) (hk9 : k ≤ 9) (h4 : x < t) (h5 : y < t) (h6 : V x) (h7 : V y) : tgd K F S t = (tgd K F S x && tgd K F S y) := tA_2 hV hk hx hy h3 hk9 h4 h5 h6 h7
theorem tgd_1 {V AG : Nat → Prop} {K F S : Nat → Int32} (hV : ∀ t, V t → t < 100000 ∧ tOk V AG K F S t) {t k x : Nat} (hk : K t = nI k) (hx : F t = nI x) (hy : S t = -1) (h3 : 3 < k) (hk9 : k ≤ 9) (h4 : x < t) (h6 : V x) : tgd K F S t = tgd K F S x := by
  have : tgd K F S t = (tgd K F S x && true) := tA_1 hV hk hx hy h3 hk9 h4 h6
  rw [this, Bool.and_true]
theorem tgd_0 {K F S : Nat → Int32} {t k : Nat} (hk : K t = nI k) (h3 : k ≤ 3) : tgd K F S t = decide (k ≠ 3) := by
  have : tgd K F S t = decide (K t ≠ nI 3) := tA_0 hk h3
  rw [this, hk]
  by_cases e : k = 3
  · subst e; rfl
  · rw [decide_eq_true e, decide_eq_true (nI_ne e)]
set_option maxRecDepth 100000 in
set_option maxHeartbeats 4000000 in
theorem mr_isMade (L : Nat) (xs : Nat → Int32) (d : Nat) (σ : kS) (n b : Nat) (l : rwT) (t : Nat) (h : mTb σ n b) (hq : mRq σ (mvG σ n b) l) (ht : mv n b t) (hmk : ∀ x, x < t → mv n b x → σ 272 x = isB (mMk σ l x)) : kXM kT L xs (d + 3) 181 [.ref 232, .int (nI t)] σ (fun r σ' => r = some (.int (isB (mMk σ l t))) ∧ σ = σ') := by
  have hn := h.1
  have hb := h.2.2.1
  have hV := h.2.2.2.2.2.1.1
  have hG := h.2.2.2.2.2.2.1
  have ht1 : t < 1000 := by unfold mv at ht; omega
  have hR := fun u (hu : mv n b u) => mR_iff h hq.2.2.1 hu
  have h1000 : ∀ x, mv n b x → x < 1000 := fun x q => by unfold mv at q; omega
  have h01 : ∀ P : Prop, isB P = 0 ∨ isB P = 1 := fun P => by
    by_cases hp : P
    · exact Or.inr (isB_T hp)
    · exact Or.inl (isB_F hp)
  unfold kXM
  repeat refine kX_one rfl ?_
  refine kX_baldN rfl rfl (by decide) (t) (by first | rfl | decide) (ht1) ?_
  rw [hq.2.2.2.1 t ht1]
  repeat refine kX_one rfl ?_
  refine kX_if (fun q => ?_) (fun q => ?_)
  · have q : ¬ rwI l t := fun z => isB_ne.mpr z (qeq q)
    have qR : ¬ mR σ l (tvl (σ 233) (σ 234) (σ 235) t) := fun z => q ((hR t ht).mp z)
    repeat refine kX_one rfl ?_
    refine kX_baldN rfl rfl (by decide) (t) (by first | rfl | decide) (ht1) ?_
    rw [hG t ht]
    repeat refine kX_one rfl ?_
    refine kX_if (fun q2 => ?_) (fun q2 => ?_)
    · have q2 := (bI_ne _).mp (qne q2)
      repeat refine kX_one rfl ?_
      refine kX_ialdN rfl rfl (by decide) (t) (by first | rfl | decide) (ht1) ?_
      have red : ∀ r : Int32, r = isB (vmk (mR σ l) (mA σ) (σ 238) (tvl (σ 233) (σ 234) (σ 235) t)) → (some (Value.int r) = some (.int (isB (mMk σ l t))) ∧ σ = σ) := fun r hr => by
        refine ⟨?_, rfl⟩
        rw [hr]
        have : mMk σ l t ↔ vmk (mR σ l) (mA σ) (σ 238) (tvl (σ 233) (σ 234) (σ 235) t) := ⟨fun z => z.2, fun z => ⟨q2, z⟩⟩
        rw [propext this]
      rcases (hV t ht).2 with ⟨k, h3, hk, -, -⟩ | ⟨k, x, y, h3, hk, hx, hy, h4, h5, h6, h7⟩ | ⟨k, x, h3, hk, hx, hy, h4, h6⟩
      · rw [hk]
        rw [tvl_0 hk h3] at qR red
        have ht200 : t < 200 := by
          refine Nat.not_le.mp (fun hge => ?_)
          have h9 := h.2.2.2.2.2.2.2.2.1 t hge (by unfold mv at ht; omega)
          rw [hk, fN_nI (by omega)] at h9
          omega
        obtain rfl | rfl | rfl | rfl : k = 0 ∨ k = 1 ∨ k = 2 ∨ k = 3 := by omega
        · repeat refine kX_one rfl ?_
          refine kX_ret (i := .ireturn) (len := 1) rfl (Or.inr rfl) rfl (red _ (isB_T (Or.inr ⟨ht200, hk⟩)).symm)
        · repeat refine kX_one rfl ?_
          refine kX_ret (i := .ireturn) (len := 1) rfl (Or.inr rfl) rfl (red _ (isB_F (fun z => z.elim qR (fun z => absurd (hk.symm.trans z.2) (by decide)))).symm)
        · repeat refine kX_one rfl ?_
          refine kX_ret (i := .ireturn) (len := 1) rfl (Or.inr rfl) rfl (red _ (isB_F (fun z => z.elim qR (fun z => absurd (hk.symm.trans z.2) (by decide)))).symm)
        · rw [tgd_0 hk h3] at q2
          exact absurd rfl (of_decide_eq_true q2)
      · rw [hk]
        have hgxy := tgd_2 hV hk hx hy (by omega) (by omega) h4 h5 h6 h7
        rw [q2] at hgxy
        have hgx : tgd (σ 233) (σ 234) (σ 235) x = true := by
          have := hgxy.symm
          rw [Bool.and_eq_true] at this
          exact this.1
        have hgy : tgd (σ 233) (σ 234) (σ 235) y = true := by
          have := hgxy.symm
          rw [Bool.and_eq_true] at this
          exact this.2
        have mx : mMk σ l x ↔ vmk (mR σ l) (mA σ) (σ 238) (tvl (σ 233) (σ 234) (σ 235) x) := ⟨fun z => z.2, fun z => ⟨hgx, z⟩⟩
        have my : mMk σ l y ↔ vmk (mR σ l) (mA σ) (σ 238) (tvl (σ 233) (σ 234) (σ 235) y) := ⟨fun z => z.2, fun z => ⟨hgy, z⟩⟩
        rw [tvl_2 hV hk hx hy (by omega) (by omega) h4 h5 h6 h7] at qR red
        have two : ∀ g : Jvm.Term, (vmk (mR σ l) (mA σ) (σ 238) g ↔ vmk (mR σ l) (mA σ) (σ 238) (tvl (σ 233) (σ 234) (σ 235) x) ∧ vmk (mR σ l) (mA σ) (σ 238) (tvl (σ 233) (σ 234) (σ 235) y)) → (∀ r : Int32, r = isB (vmk (mR σ l) (mA σ) (σ 238) g) → (some (Value.int r) = some (.int (isB (mMk σ l t))) ∧ σ = σ)) →
            kX kT L xs (d + 3) 181 86 [(0, .ref 232), (1, .int (nI t))] [] σ (fun r σ' => r = some (.int (isB (mMk σ l t))) ∧ σ = σ') := by
          intro g hg redg
          repeat refine kX_one rfl ?_
          refine kX_ialdN rfl rfl (by decide) (t) (by first | rfl | decide) (ht1) ?_
          rw [hx]
          refine kX_baldN rfl rfl (by decide) (x) (by first | rfl | decide) (h1000 x h6) ?_
          rw [hmk x h4 h6]
          repeat refine kX_one rfl ?_
          refine kX_if (fun q3 => ?_) (fun q3 => ?_)
          · have q3 : ¬ mMk σ l x := fun z => isB_ne.mpr z (qeq q3)
            repeat refine kX_one rfl ?_
            refine kX_ret (i := .ireturn) (len := 1) rfl (Or.inr rfl) rfl (redg _ (isB_F (fun z => q3 (mx.mpr (hg.mp z).1))).symm)
          · have q3 : mMk σ l x := isB_ne.mp (qeqF q3)
            repeat refine kX_one rfl ?_
            refine kX_ialdN rfl rfl (by decide) (t) (by first | rfl | decide) (ht1) ?_
            rw [hy]
            refine kX_baldN rfl rfl (by decide) (y) (by first | rfl | decide) (h1000 y h7) ?_
            rw [hmk y h5 h7]
            repeat refine kX_one rfl ?_
            refine kX_if (fun q4 => ?_) (fun q4 => ?_)
            · have q4 : ¬ mMk σ l y := fun z => isB_ne.mpr z (qeq q4)
              repeat refine kX_one rfl ?_
              refine kX_ret (i := .ireturn) (len := 1) rfl (Or.inr rfl) rfl (redg _ (isB_F (fun z => q4 (my.mpr (hg.mp z).2))).symm)
            · have q4 : mMk σ l y := isB_ne.mp (qeqF q4)
              repeat refine kX_one rfl ?_
              refine kX_ret (i := .ireturn) (len := 1) rfl (Or.inr rfl) rfl (redg _ (isB_T (hg.mpr ⟨mx.mp q3, my.mp q4⟩)).symm)
        rcases h3 with rfl | rfl | ⟨h3, hag⟩
        · iterate 1 (refine kX_one rfl ?_)
          exact two (Jvm.Term.add (tvl (σ 233) (σ 234) (σ 235) x) (tvl (σ 233) (σ 234) (σ 235) y)) ⟨fun z => Or.elim z (fun z => absurd z qR) id, Or.inr⟩ red
        · iterate 1 (refine kX_one rfl ?_)
          exact two (Jvm.Term.sub (tvl (σ 233) (σ 234) (σ 235) x) (tvl (σ 233) (σ 234) (σ 235) y)) ⟨fun z => Or.elim z (fun z => absurd z qR) id, Or.inr⟩ red
        · have hy0 : σ 233 y = nI 0 := by
            rcases hag.2 with e | ⟨e, -⟩
            · exact e
            · rw [tgd_0 e (by decide)] at hgy
              exact absurd rfl (of_decide_eq_true hgy)
          rcases h3 with rfl | rfl
          · repeat refine kX_one rfl ?_
            refine kX_ialdN rfl rfl (by decide) (t) (by first | rfl | decide) (ht1) ?_
            rw [hx]
            refine kX_baldN rfl rfl (by decide) (x) (by first | rfl | decide) (h1000 x h6) ?_
            rw [hmk x h4 h6]
            refine kX_ret (i := .ireturn) (len := 1) rfl (Or.inr rfl) (jend_b rfl (h01 _)) (red _ (by rw [propext mx]; exact congrArg isB (propext ⟨Or.inr, fun z => z.elim (fun z => absurd z qR) id⟩)))
          · repeat refine kX_one rfl ?_
            refine kX_ialdN rfl rfl (by decide) (t) (by first | rfl | decide) (ht1) ?_
            rw [hx]
            refine kX_baldN rfl rfl (by decide) (x) (by first | rfl | decide) (h1000 x h6) ?_
            rw [hmk x h4 h6]
            rw [tvl_0 hy0 (by decide)] at qR red
            repeat refine kX_one rfl ?_
            refine kX_if (fun q3 => ?_) (fun q3 => ?_)
            · have q3 : ¬ mMk σ l x := fun z => isB_ne.mpr z (qeq q3)
              repeat refine kX_one rfl ?_
              refine kX_ret (i := .ireturn) (len := 1) rfl (Or.inr rfl) rfl (red _ (isB_F (fun z => z.elim qR (fun z => q3 (mx.mpr z.1)))).symm)
            · have q3 : mMk σ l x := isB_ne.mp (qeqF q3)
              repeat refine kX_one rfl ?_
              refine kX_ialdN rfl rfl (by decide) (t) (by first | rfl | decide) (ht1) ?_
              rw [hy]
              refine kX_cal (mr_hasPrivate L xs d σ n b l y h hq hag.1 hy0) rfl (Or.inr rfl) rfl rfl rfl (fun r1 σ1 q1 => ?_)
              obtain ⟨rfl, rfl⟩ := q1
              repeat refine kX_one rfl ?_
              refine kX_if (fun q4 => ?_) (fun q4 => ?_)
              · have q4 := fun z => isB_ne.mpr z (qeq q4)
                repeat refine kX_one rfl ?_
                refine kX_ret (i := .ireturn) (len := 1) rfl (Or.inr rfl) rfl (red _ (isB_F (fun z => z.elim qR (fun z => q4 z.2))).symm)
              · have q4 := isB_ne.mp (qeqF q4)
                repeat refine kX_one rfl ?_
                refine kX_ret (i := .ireturn) (len := 1) rfl (Or.inr rfl) rfl (red _ (isB_T (Or.inr ⟨mx.mp q3, q4⟩)).symm)
      · rw [hk]
        have hgx := tgd_1 hV hk hx hy (by omega) (by omega) h4 h6
        rw [q2] at hgx
        have mx : mMk σ l x ↔ vmk (mR σ l) (mA σ) (σ 238) (tvl (σ 233) (σ 234) (σ 235) x) := ⟨fun z => z.2, fun z => ⟨hgx.symm, z⟩⟩
        rw [tvl_1 hV hk hx hy (by omega) (by omega) h4 h6] at qR red
        rcases h3 with rfl | ⟨rfl, hag⟩
        · repeat refine kX_one rfl ?_
          refine kX_ialdN rfl rfl (by decide) (t) (by first | rfl | decide) (ht1) ?_
          rw [hx]
          refine kX_baldN rfl rfl (by decide) (x) (by first | rfl | decide) (h1000 x h6) ?_
          rw [hmk x h4 h6]
          refine kX_ret (i := .ireturn) (len := 1) rfl (Or.inr rfl) (jend_b rfl (h01 _)) (red _ (by rw [propext mx]; exact congrArg isB (propext ⟨Or.inr, fun z => z.elim (fun z => absurd z qR) id⟩)))
        · have hx0 : σ 233 x = nI 0 := by
            rcases hag.2 with e | ⟨e, -⟩
            · exact e
            · rw [tgd_0 e (by decide)] at hgx
              exact absurd rfl (of_decide_eq_true hgx.symm)
          rw [tvl_0 hx0 (by decide)] at qR red
          have hv0 : vnh (σ 238) (.arg x) ↔ σ 238 x = 0 := ⟨fun ⟨z, e, hz⟩ => by rw [Jvm.Term.arg.inj e]; exact hz, fun q => ⟨x, rfl, q⟩⟩
          repeat refine kX_one rfl ?_
          refine kX_ialdN rfl rfl (by decide) (t) (by first | rfl | decide) (ht1) ?_
          rw [hx]
          refine kX_baldN rfl rfl (by decide) (x) (by first | rfl | decide) (by have := hag.1; omega) ?_
          repeat refine kX_one rfl ?_
          refine kX_if (fun q3 => ?_) (fun q3 => ?_)
          · have q3 := qne q3
            repeat refine kX_one rfl ?_
            refine kX_ret (i := .ireturn) (len := 1) rfl (Or.inr rfl) rfl (red _ (isB_F (fun z => z.elim qR (fun z => q3 (hv0.mp z)))).symm)
          · have q3 := qneF q3
            repeat refine kX_one rfl ?_
            refine kX_ret (i := .ireturn) (len := 1) rfl (Or.inr rfl) rfl (red _ (isB_T (Or.inr (hv0.mpr q3))).symm)
    · have q2 := (bI_eq _).mp (qneF q2)
      repeat refine kX_one rfl ?_
      refine kX_ret (i := .ireturn) (len := 1) rfl (Or.inr rfl) rfl (⟨by rw [isB_F (fun z => absurd z.1 (by rw [q2]; decide))]; rfl, rfl⟩)
  · have q : rwI l t := isB_ne.mp (qeqF q)
    repeat refine kX_one rfl ?_
    refine kX_ret (i := .ireturn) (len := 1) rfl (Or.inr rfl) rfl ⟨?_, rfl⟩
    have hm : mMk σ l t := by
      refine ⟨(hq.2.2.1 t q).2, ?_⟩
      have hRt := (hR t ht).mpr q
      have hgt := (hq.2.2.1 t q).2
      rcases (hV t ht).2 with ⟨k, h3, hk, -, -⟩ | ⟨k, x, y, h3, hk, hx, hy, h4, h5, h6, h7⟩ | ⟨k, x, h3, hk, hx, hy, h4, h6⟩
      · rw [tvl_0 hk h3] at hRt ⊢
        exact Or.inl hRt
      · rw [tvl_2 hV hk hx hy (by omega) (by omega) h4 h5 h6 h7] at hRt ⊢
        rcases h3 with rfl | rfl | ⟨rfl | rfl, -⟩
        · exact Or.inl hRt
        · exact Or.inl hRt
        · exact Or.inl hRt
        · exact Or.inl hRt
      · rw [tvl_1 hV hk hx hy (by omega) (by omega) h4 h6] at hRt ⊢
        rcases h3 with rfl | ⟨rfl, -⟩
        · exact Or.inl hRt
        · exact Or.inl hRt
    rw [isB_T hm]
    rfl
/-- what was judged of the row l holds -/
def mJd (σ : kS) (n b : Nat) (l : rwT) : Prop := (σ 232 50 = -1 ∨ ∃ r0, r0 ≤ l.length ∧ σ 232 50 = nI r0) ∧ (σ 232 50 = nI l.length → ∃ j, σ 232 49 = nI j ∧ 200 ≤ j ∧ j ≤ b ∧ ∀ t, mv n b t → t < j → σ 272 t = isB (mMk σ l t))
def cmS (σ : kS) (M o : Nat → Int32) : kS := va_up (va_up σ 272 M) 232 o
theorem isB_01 (P : Prop) : isB P = 0 ∨ isB P = 1 := by
  by_cases hp : P
  · exact Or.inr (isB_T hp)
  · exact Or.inl (isB_F hp)
set_option maxRecDepth 100000 in
set_option maxHeartbeats 4000000 in
theorem mr_canMake (L : Nat) (xs : Nat → Int32) (d : Nat) (σ : kS) (n b : Nat) (l : rwT) (t : Nat) (h : mTb σ n b) (hq : mRq σ (mvG σ n b) l) (hj : mJd σ n b l) (ht : mv n b t) : kXM kT L xs (d + 4) 182 [.ref 232, .int (nI t)] σ (fun r σ' => r = some (.int (isB (mMk σ l t))) ∧ ∃ M, σ' = cmS σ M (upd (upd (σ 232) 49 (nI b)) 50 (nI l.length)) ∧ mJd σ' n b l) := by
  have hn := h.1
  have hb2 := h.2.1
  have hb := h.2.2.1
  have hl := mRq_len hq
  have ht1 : t < 1000 := by unfold mv at ht; omega
  have hend : ∀ q : Nat × (Nat → Int32), (200 ≤ q.1 ∧ q.1 ≤ b ∧ ∀ u, mv n b u → u < q.1 → q.2 u = isB (mMk σ l u)) → kX kT L xs (d + 4) 182 53 [(0, .ref 232), (1, .int (nI t))] [] (cmS σ q.2 (upd (upd (σ 232) 49 (nI q.1)) 50 (nI l.length))) (fun r σ' => r = some (.int (isB (mMk σ l t))) ∧ ∃ M, σ' = cmS σ M (upd (upd (σ 232) 49 (nI b)) 50 (nI l.length)) ∧ mJd σ' n b l) := by
    refine kX_while (fun q : Nat × (Nat → Int32) => [(0, .ref 232), (1, .int (nI t))]) (fun q => cmS σ q.2 (upd (upd (σ 232) 49 (nI q.1)) 50 (nI l.length))) _ (fun q => b - q.1) ?_
    rintro ⟨j, M⟩ ⟨h1, h2, h3⟩ ih
    dsimp only at h1 h2 h3 ih ⊢
    iterate 4 (refine kX_one rfl ?_)
    refine kX_top (h.2.2.2.2.1) ?_
    repeat refine kX_one rfl ?_
    refine kX_if (fun q => ?_) (fun q => ?_)
    · have q := qge q j b
      obtain rfl : j = b := by omega
      repeat refine kX_one rfl ?_
      refine kX_baldN rfl rfl (by decide) (t) (by first | rfl | decide) (ht1) ?_
      rw [show cmS σ M (upd (upd (σ 232) 49 (nI j)) 50 (nI l.length)) 272 t = isB (mMk σ l t) from h3 t ht (by unfold mv at ht; omega)]
      refine kX_ret (i := .ireturn) (len := 1) rfl (Or.inr rfl) (jend_b rfl (isB_01 _)) (⟨rfl, M, rfl, Or.inr ⟨l.length, Nat.le_refl _, rfl⟩, fun _ => ⟨j, rfl, h1, Nat.le_refl _, h3⟩⟩)
    · have q := qgeF q j b
      repeat refine kX_one rfl ?_
      refine kX_cal (mr_isMade L xs d _ n b l j (show mTb (cmS σ M (upd (upd (σ 232) 49 (nI j)) 50 (nI l.length))) n b from h) (show mRq (cmS σ M (upd (upd (σ 232) 49 (nI j)) 50 (nI l.length))) (mvG σ n b) l from hq) (Or.inr ⟨h1, q⟩) (fun x hx hv => h3 x hv hx)) rfl (Or.inr rfl) rfl rfl rfl (fun r1 σ1 q1 => ?_)
      obtain ⟨rfl, rfl⟩ := q1
      refine kX_bastN rfl rfl (by decide) (j) (by first | rfl | decide) (by omega) (isB_01 _) ?_
      iterate 7 (refine kX_one rfl ?_)
      have := ih (j + 1, upd M j (isB (mMk σ l j))) ⟨by omega, by simp only; omega, fun u hu hlt => by
        simp only at hlt ⊢
        by_cases e : u = j
        · subst e
          exact pk_us
        · rw [pk_un e]
          exact h3 u hu (by omega)⟩ (by simp only; omega)
      refine kX_st _ ?_ this
      rw [← nI_1]
      funext c; unfold cmS va_up; repeat' split
      all_goals first | rfl | omega | (subst_vars; rfl) | (funext j; unfold upd; repeat' split; all_goals first | rfl | omega | (subst_vars; rfl))
  unfold kXM
  iterate 4 (refine kX_one rfl ?_)
  refine kX_top (hq.1) ?_
  repeat refine kX_one rfl ?_
  refine kX_if (fun q => ?_) (fun q => ?_)
  · have q := qeq q
    obtain ⟨j, j1, j2, j3, j4⟩ := hj.2 q
    have := hend (j, σ 272) ⟨j2, j3, j4⟩
    refine kX_st _ ?_ this
    have e : upd (upd (σ 232) 49 (nI j)) 50 (nI l.length) = σ 232 := by
      funext z
      unfold upd
      split
      · next e => rw [e]; exact q.symm
      · split
        · next e => rw [e]; exact j1.symm
        · rfl
    rw [e]
    funext c; unfold cmS va_up; repeat' split
    all_goals first | rfl | (next e => rw [e])
  · iterate 2 (refine kX_one rfl ?_)
    have loop := kX_while (T := kT) (L := L) (xs := xs) (d := d + 4) (mi := 182) (pc := 13) (Q := fun r σ' => r = some (.int (isB (mMk σ l t))) ∧ ∃ M, σ' = cmS σ M (upd (upd (σ 232) 49 (nI b)) 50 (nI l.length)) ∧ mJd σ' n b l)
      (fun q : Nat × (Nat → Int32) => [(2, .int (nI q.1)), (0, .ref 232), (1, .int (nI t))]) (fun q => va_up σ 272 q.2) (fun q => q.1 ≤ n ∧ ∀ u, u < q.1 → q.2 u = isB (mMk σ l u)) (fun q => n - q.1) ?_ (0, σ 272) ⟨Nat.zero_le _, fun u hu => absurd hu (Nat.not_lt_zero u)⟩
    · rw [kup_self] at loop
      exact loop
    · rintro ⟨k, M⟩ ⟨h1, h2⟩ ih
      dsimp only at h1 h2 ih ⊢
      iterate 3 (refine kX_one rfl ?_)
      refine kX_top (h.2.2.2.1) ?_
      repeat refine kX_one rfl ?_
      refine kX_if (fun q => ?_) (fun q => ?_)
      · have q := qge q k n
        obtain rfl : k = n := by omega
        iterate 6 (refine kX_one rfl ?_)
        refine kX_top (hq.1) ?_
        iterate 1 (refine kX_one rfl ?_)
        have := hend (200, M) ⟨Nat.le_refl _, hb2, fun u hu hlt => h2 u (by unfold mv at hu; simp only at hlt; omega)⟩
        refine kX_to _ _ rfl rfl rfl ?_ this
        funext c; unfold cmS va_up; repeat' split
        all_goals first | rfl | omega | (subst_vars; rfl) | (funext j; unfold upd; repeat' split; all_goals first | rfl | omega | (subst_vars; rfl))
      · have q := qgeF q k n
        repeat refine kX_one rfl ?_
        refine kX_cal (mr_isMade L xs d _ n b l k (show mTb (va_up σ 272 M) n b from h) (show mRq (va_up σ 272 M) (mvG σ n b) l from hq) (Or.inl q) (fun x hx hv => h2 x hx)) rfl (Or.inr rfl) rfl rfl rfl (fun r1 σ1 q1 => ?_)
        obtain ⟨rfl, rfl⟩ := q1
        refine kX_bastN rfl rfl (by decide) (k) (by first | rfl | decide) (by omega) (isB_01 _) ?_
        iterate 2 (refine kX_one rfl ?_)
        rw [kup_up]
        have := ih (k + 1, upd M k (isB (mMk σ l k))) ⟨q, fun u hlt => by
          simp only at hlt ⊢
          by_cases e : u = k
          · subst e
            exact pk_us
          · rw [pk_un e]
            exact h2 u (by omega)⟩ (by simp only; omega)
        rw [← nI_1] at this
        exact this
