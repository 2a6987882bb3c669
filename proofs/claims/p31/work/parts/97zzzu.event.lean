section
/-! alike: newEvent -/
/-- what newEvent leaves -/
def neP (σ ω : kS) (r e t v : Nat) (b : Int32) : Prop := (∀ c, c ≠ 20 → c ≠ 21 → c ≠ 22 → c ≠ 26 + 35 * r → c ≠ 23 + 35 * r → (c < 28 + 35 * r + 5 * e ∨ 28 + 35 * r + 5 * e + 5 ≤ c) → ω c = σ c) ∧ ω (23 + 35 * r) = upd (σ (23 + 35 * r)) 5 (nI (e + 1)) ∧ ω (28 + 35 * r + 5 * e) 1 = nI t ∧ ω (28 + 35 * r + 5 * e) 0 = b ∧ (b ≠ 0 → ω (28 + 35 * r + 5 * e) 4 = 0 ∧ ω (26 + 35 * r) = σ (26 + 35 * r)) ∧ (b = 0 → bnG σ ω r v (28 + 35 * r + 5 * e) (bdL σ r v (tvs (σ 233) (σ 234) (σ 235) t)) ∧ aP ω (28 + 35 * r + 5 * e) t (bdL σ r v (tvs (σ 233) (σ 234) (σ 235) t)))
theorem wfr_eq {σ τ : kS} {r v : Nat} {x : Int32} (e1 : τ (24 + 35 * r) = σ (24 + 35 * r)) (e2 : τ (26 + 35 * r) = σ (26 + 35 * r)) : wfr τ r v x ↔ wfr σ r v x := by
  unfold wfr
  rw [e1, e2]
theorem bdL_eq {σ τ : kS} {r v : Nat} {l : List Nat} (e1 : τ (24 + 35 * r) = σ (24 + 35 * r)) (e2 : τ (26 + 35 * r) = σ (26 + 35 * r)) (e3 : τ 12 = σ 12) : bdL τ r v l = bdL σ r v l := by
  unfold bdL
  rw [e3]
  exact fl_congr (fun u _ => wfr_eq e1 e2)
theorem mTb_hi {σ τ : kS} {n b : Nat} (e : ∀ c, 232 ≤ c → τ c = σ c) (h : mTb σ n b) : mTb τ n b := by
  unfold mTb mAG mpt at h ⊢
  rw [e 232 (by decide), e 233 (by decide), e 234 (by decide), e 235 (by decide), e 236 (by decide), e 240 (by decide), e 237 (by decide), e 242 (by decide), e 243 (by decide)]
  exact h
theorem bl_inj {σ : kS} {n r v t : Nat} {bl : List Nat} (hbl : bdL σ r v (tvs (σ 233) (σ 234) (σ 235) t) = bl) (hvm : ∀ u ∈ tvs (σ 233) (σ 234) (σ 235) t, u < n ∧ σ 233 u = nI 3) (hplo : ∀ w, w < n → σ 233 w = nI 3 → σ 12 w = σ 241 w) (hinj : ∀ u ∈ tvs (σ 233) (σ 234) (σ 235) t, ∀ w ∈ tvs (σ 233) (σ 234) (σ 235) t, σ 12 u = σ 12 w → u = w) {i j : Nat} (hi : i < bl.length) (hj : j < bl.length) (q : σ 241 (bl[i]'hi) = σ 241 (bl[j]'hj)) : i = j := by
  have hbm : ∀ w ∈ bl, w ∈ tvs (σ 233) (σ 234) (σ 235) t := fun w hw => by
    rw [← hbl] at hw
    exact (bdL_mem.mp hw).1
  have hi1 := hbm _ (List.getElem_mem hi)
  have hj1 := hbm _ (List.getElem_mem hj)
  have e := hinj _ hi1 _ hj1 (by rw [hplo _ (hvm _ hi1).1 (hvm _ hi1).2, hplo _ (hvm _ hj1).1 (hvm _ hj1).2]; exact q)
  have hn : bl.Pairwise (fun x y => x ≠ y) := by
    rw [← hbl]
    exact bdL_nd
  rcases Nat.lt_trichotomy i j with h | h | h
  · exact absurd e (List.pairwise_iff_getElem.mp hn i j hi hj h)
  · exact h
  · exact absurd e.symm (List.pairwise_iff_getElem.mp hn j i hj hi h)
set_option maxRecDepth 100000 in
set_option maxHeartbeats 4000000 in
theorem mf_newEvent (L : Nat) (xs : Nat → Int32) (d : Nat) (σ : kS) (n b0 R S C r e t v : Nat) (b : Int32) (h : cJ σ n R S C) (hI : mTb σ n b0) (hA : aT σ n) (hv6 : v ≤ 6) (hvc : σ (23 + 35 * r) 3 = nI v) (hpl : ∀ u ∈ tvs (σ 233) (σ 234) (σ 235) t, ∃ k, k < v ∧ σ 12 u = nI k) (hinj : ∀ u ∈ tvs (σ 233) (σ 234) (σ 235) t, ∀ w ∈ tvs (σ 233) (σ 234) (σ 235) t, σ 12 u = σ 12 w → u = w) (hr : r < R) (he : e < 6) (hec : σ (23 + 35 * r) 5 = nI e) (ht : t < n) (hb : b = 0 ∨ b = 1) : kXM kT L xs (d + 5) 9 [.ref 13, .ref (23 + 35 * r), .int b, .int (nI t)] σ (fun q σ' => q = some (.int (nI (e + 1))) ∧ cJ σ' n R S C ∧ neP σ σ' r e t v b) := by
  have hT := h.1
  have hR4 := h.2.1.1
  have hr4 : r < 4 := by omega
  obtain ⟨v', e', v1, e1, v2, e2, so1, ev1⟩ := h.2.1.2.2 r hr
  obtain rfl : e = e' := nI_inj (hec.symm.trans e2)
  obtain rfl : v = v' := nI_inj (hvc.symm.trans v2)
  have h24s : tsz (σ 233) (σ 234) (σ 235) t ≤ 24 := hI.2.2.2.2.2.2.2.2.2 t ht
  have hplo : ∀ w, w < n → σ 233 w = nI 3 → σ 12 w = σ 241 w := fun w hw hk => ((hA.1 w hw).2.2.2.2.2.2 hk).2.2
  have hvm : ∀ u ∈ tvs (σ 233) (σ 234) (σ 235) t, u < n ∧ σ 233 u = nI 3 := fun u hu => ⟨(tvs_mem (mTb_num hI) t ht u hu).1, (tvs_mem (mTb_num hI) t ht u hu).2.1⟩
  have hEv := kT_ev hr4 he
  unfold kXM
  iterate 1 (refine kX_one rfl ?_)
  refine kX_getN rfl rfl (kT_ro hr4) rfl ?_
  refine kX_top (hec) ?_
  iterate 1 (refine kX_one rfl ?_)
  repeat refine kX_one rfl ?_
  refine kX_if (fun q => ?_) (fun q => ?_)
  · iterate 1 (refine kX_one rfl ?_)
    refine kX_getN rfl rfl (kT_ro hr4) rfl ?_
    iterate 1 (refine kX_one rfl ?_)
    refine kX_getN rfl rfl (kT_ro hr4) rfl ?_
    refine kX_top (hec) ?_
    refine kX_aaldN rfl (kT_re hr4) (by decide) (by decide) (by decide) (e) (by first | rfl | decide) (he) (ev_at he) ?_
    iterate 3 (refine kX_one rfl ?_)
    refine kX_putN rfl rfl hEv rfl (by rcases hb with rfl | rfl <;> rfl) rfl ?_
    iterate 2 (refine kX_one rfl ?_)
    refine kX_putN rfl rfl (hEv) rfl (rfl) rfl ?_
    iterate 2 (refine kX_one rfl ?_)
    refine kX_putN rfl rfl (hEv) rfl (rfl) rfl ?_
    iterate 2 (refine kX_one rfl ?_)
    refine kX_putN rfl rfl (hEv) rfl (rfl) rfl ?_
    refine kX_st (va_up σ (28 + 35 * r + 5 * e) (upd (upd (upd (upd (σ (28 + 35 * r + 5 * e)) 0 b) 1 (nI t)) 4 0) 7 0)) ?_ ?_
    · rw [kup_up, kup_up, kup_up]
      simp only [up_eq]
      rfl
    have hρa : va_up σ (28 + 35 * r + 5 * e) (upd (upd (upd (upd (σ (28 + 35 * r + 5 * e)) 0 b) 1 (nI t)) 4 0) 7 0) (28 + 35 * r + 5 * e) = upd (upd (upd (upd (σ (28 + 35 * r + 5 * e)) 0 b) 1 (nI t)) 4 0) 7 0 := up_eq
    have hρo : ∀ c, c ≠ 28 + 35 * r + 5 * e → va_up σ (28 + 35 * r + 5 * e) (upd (upd (upd (upd (σ (28 + 35 * r + 5 * e)) 0 b) 1 (nI t)) 4 0) 7 0) c = σ c := fun c hc => up_ne hc
    generalize va_up σ (28 + 35 * r + 5 * e) (upd (upd (upd (upd (σ (28 + 35 * r + 5 * e)) 0 b) 1 (nI t)) 4 0) 7 0) = ρ at *
    have hte : ρ (28 + 35 * r + 5 * e) 1 = nI t := by rw [hρa]; rfl
    have hbc : ρ (28 + 35 * r + 5 * e) 4 = 0 := by rw [hρa]; rfl
    have hpc : ρ (28 + 35 * r + 5 * e) 7 = 0 := by rw [hρa]; rfl
    have hTρ : cT ρ n := by
      refine cT_eq (by rw [hρo 1 (by omega)]) (hρo _ (by omega)) (fun u _ => ?_) hT
      rw [hρo 2 (by omega), hρo 3 (by omega), hρo 4 (by omega), hρo 8 (by omega), hρo 12 (by omega), hρo 6 (by omega)]
      exact ⟨rfl, rfl, rfl, rfl, rfl, rfl⟩
    have k71 : ∀ τ, (τ (28 + 35 * r + 5 * e) 1 = nI t ∧ τ (28 + 35 * r + 5 * e) 0 = b ∧ (b ≠ 0 → τ (28 + 35 * r + 5 * e) 4 = 0 ∧ τ (26 + 35 * r) = σ (26 + 35 * r)) ∧ (b = 0 → bnG σ τ r v (28 + 35 * r + 5 * e) (bdL σ r v (tvs (σ 233) (σ 234) (σ 235) t)) ∧ aP τ (28 + 35 * r + 5 * e) t (bdL σ r v (tvs (σ 233) (σ 234) (σ 235) t)))) → (∀ c, c ≠ 20 → c ≠ 21 → c ≠ 22 → c ≠ 26 + 35 * r → (c < 28 + 35 * r + 5 * e ∨ 28 + 35 * r + 5 * e + 5 ≤ c) → τ c = σ c) → cE τ n (28 + 35 * r + 5 * e) → kX kT L xs (d + 5) 9 71 [(4, .ref (28 + 35 * r + 5 * e)), (0, .ref 13), (1, .ref (23 + 35 * r)), (2, .int b), (3, .int (nI t))] [] τ (fun q σ' => q = some (.int (nI (e + 1))) ∧ cJ σ' n R S C ∧ neP σ σ' r e t v b) := by
      intro τ hne hτ hE
      have e23 : τ (23 + 35 * r) = σ (23 + 35 * r) := hτ _ (by omega) (by omega) (by omega) (by omega) (by omega)
      iterate 2 (refine kX_one rfl ?_)
      refine kX_getN rfl rfl (kT_ro hr4) rfl ?_
      refine kX_top (y := nI e) (by rw [e23]; exact hec) ?_
      iterate 2 (refine kX_one rfl ?_)
      refine kX_putN rfl rfl (kT_ro hr4) rfl (rfl) rfl ?_
      iterate 1 (refine kX_one rfl ?_)
      refine kX_getN rfl rfl (kT_ro hr4) rfl ?_
      have hω : ∀ c, c ≠ 23 + 35 * r → va_up τ (23 + 35 * r) (upd (τ (23 + 35 * r)) 5 (nI e + Int32.ofInt 1)) c = τ c := fun c hc => up_ne hc
      have hωr : va_up τ (23 + 35 * r) (upd (τ (23 + 35 * r)) 5 (nI e + Int32.ofInt 1)) (23 + 35 * r) = upd (σ (23 + 35 * r)) 5 (nI (e + 1)) := by
        rw [up_eq, e23, ← nI_1]
        rfl
      refine kX_top (y := nI (e + 1)) (by rw [up_eq]; exact pk_us.trans (nI_1 e)) ?_
      refine kX_ret (i := .ireturn) (len := 1) rfl (Or.inr rfl) rfl ⟨rfl, ?_⟩
      show cJ (va_up τ (23 + 35 * r) (upd (τ (23 + 35 * r)) 5 (nI e + Int32.ofInt 1))) n R S C ∧ neP σ (va_up τ (23 + 35 * r) (upd (τ (23 + 35 * r)) 5 (nI e + Int32.ofInt 1))) r e t v b
      generalize va_up τ (23 + 35 * r) (upd (τ (23 + 35 * r)) 5 (nI e + Int32.ofInt 1)) = ω at *
      refine ⟨cJ_lo h (fun c hc => ?_) (fun j _ => ?_) ⟨hR4, ?_, fun r' hr' => ?_⟩ (Nat.le_refl _), fun c x1 x2 x3 x4 x5 x6 => ?_, hωr, by rw [hω _ (by omega)]; exact hne.1, by rw [hω _ (by omega)]; exact hne.2.1, fun z => ⟨by rw [hω _ (by omega)]; exact (hne.2.2.1 z).1, by rw [hω _ (by omega)]; exact (hne.2.2.1 z).2⟩, fun z => ?_⟩
      · rw [hω c (by omega)]
        exact hτ c (by omega) (by omega) (by omega) (by omega) (by omega)
      · rw [hω 13 (by omega), hτ 13 (by decide) (by decide) (by decide) (by omega) (by omega)]
      · rw [hω 13 (by omega), hτ 13 (by decide) (by decide) (by decide) (by omega) (by omega)]
        exact h.2.1.2.1
      · by_cases q : r' = r
        · subst q
          refine ⟨v, e + 1, v1, by omega, ?_, ?_, ?_, fun k hk => ?_⟩
          · rw [hωr]
            exact v2
          · rw [hωr]
            exact pk_us
          · rw [hω (25 + 35 * r') (by omega), hω (24 + 35 * r') (by omega), hτ (25 + 35 * r') (by omega) (by omega) (by omega) (by omega) (by omega), hτ (24 + 35 * r') (by omega) (by omega) (by omega) (by omega) (by omega)]
            exact so1
          · by_cases q : k = e
            · subst q
              exact cE_up (Nat.le_refl _) (fun i hi => hω _ (by omega)) hE
            · exact cE_up (σ := σ) (Nat.le_refl _) (fun i hi => by
                rw [hω _ (by omega)]
                exact hτ _ (by omega) (by omega) (by omega) (by omega) (by omega)) (ev1 k (by omega))
        · exact cR1_eq (fun c c1 c2 => by
            rw [hω c (by omega)]
            exact hτ c (by omega) (by omega) (by omega) (by omega) (by omega)) (h.2.1.2.2 r' hr')
      · rw [hω c x5]
        exact hτ c x1 x2 x3 x4 x6
      · obtain ⟨g1, g2⟩ := hne.2.2.2 z
        unfold bnG at g1
        unfold aP opn at g2
        unfold bnG aP opn
        rw [hω (28 + 35 * r + 5 * e) (by omega), hω (28 + 35 * r + 5 * e + 1) (by omega), hω (28 + 35 * r + 5 * e + 2) (by omega), hω (26 + 35 * r) (by omega), hω (28 + 35 * r + 5 * e + 3) (by omega), hω (28 + 35 * r + 5 * e + 4) (by omega), hω 233 (by omega), hω 234 (by omega), hω 235 (by omega)]
        exact ⟨g1, g2⟩
    iterate 1 (refine kX_one rfl ?_)
    repeat refine kX_one rfl ?_
    refine kX_if (fun q2 => ?_) (fun q2 => ?_)
    · have q2 : b ≠ 0 := qne q2
      refine kX_lv _ rfl rfl rfl (k71 ρ ⟨hte, by rw [hρa]; rfl, fun _ => ⟨hbc, hρo _ (by omega)⟩, fun z => absurd z q2⟩ (fun c _ _ _ _ hc => hρo c (by omega)) ⟨t, 0, 0, ht, by omega, by omega, hte, hbc, hpc, fun j hj => absurd hj (Nat.not_lt_zero j), fun j hj => absurd hj (Nat.not_lt_zero j)⟩)
    · have q2 : b = 0 := qneF q2
      have er : ∀ c, 232 ≤ c → ρ c = σ c := fun c hc => hρo c (by omega)
      have eT : ∀ c, c < 13 → ρ c = σ c := fun c hc => hρo c (by omega)
      have hIρ : mTb ρ n b0 := mTb_hi er hI
      have hAρ : aT ρ n := aT_c (fun c _ c2 => eT c c2) (eqC_of (P := fun c => 232 ≤ c) er _ (by decide)) hA
      have etv : tvs (ρ 233) (ρ 234) (ρ 235) t = tvs (σ 233) (σ 234) (σ 235) t := by rw [er 233 (by decide), er 234 (by decide), er 235 (by decide)]
      have ebd : bdL ρ r v (tvs (σ 233) (σ 234) (σ 235) t) = bdL σ r v (tvs (σ 233) (σ 234) (σ 235) t) := bdL_eq (hρo _ (by omega)) (hρo _ (by omega)) (eT _ (by decide))
      have hb6 : (bdL σ r v (tvs (σ 233) (σ 234) (σ 235) t)).length ≤ 6 := by
        refine op_len (σ := σ) bdL_nd (fun u hu => ?_) (fun u hu w hw hne he => hne ?_)
        · obtain ⟨hu1, -⟩ := bdL_mem.mp hu
          obtain ⟨k, k1, k2⟩ := hpl u hu1
          exact ⟨k, by omega, by rw [← hplo u (hvm u hu1).1 (hvm u hu1).2]; exact k2⟩
        · have hu1 := (bdL_mem.mp hu).1
          have hw1 := (bdL_mem.mp hw).1
          exact hinj u hu1 w hw1 (by rw [hplo u (hvm u hu1).1 (hvm u hu1).2, hplo w (hvm w hw1).1 (hvm w hw1).2]; exact he)
      iterate 3 (refine kX_one rfl ?_)
      refine kX_cal (mf_bindIn L xs (d + 1) ρ n b0 r e t v hTρ hIρ hAρ (by rw [etv, eT 12 (by decide)]; exact hpl) (by rw [etv, eT 12 (by decide)]; exact hinj) (by rw [etv, ebd]; exact hb6) hr4 he ht v1 (by rw [hρo _ (by omega)]; exact v2) (fun j hj => ?_) hte hbc) rfl (Or.inr rfl) rfl rfl rfl (fun r1 τ1 q1 => ?_)
      · obtain ⟨so, s1, s2, -⟩ := so1 j hj
        exact ⟨so, s1, by rw [hρo _ (by omega)]; exact s2⟩
      · obtain ⟨rfl, ST, VS, ⟨f1, f2⟩, ⟨m1, m2, m3⟩, hG⟩ := q1
        rw [etv, ebd] at m1 m2 m3 hG
        generalize hbl : bdL σ r v (tvs (σ 233) (σ 234) (σ 235) t) = bl at *
        have hτ1 : ∀ c, c ≠ 20 → c ≠ 21 → c ≠ 26 + 35 * r → c ≠ 28 + 35 * r + 5 * e → c ≠ 28 + 35 * r + 5 * e + 1 → c ≠ 28 + 35 * r + 5 * e + 2 → τ1 c = σ c := fun c x1 x2 x3 x4 x5 x6 => by
          rw [f1 c x3 x4 x5 x6]
          unfold lvU
          rw [up_ne x2, up_ne x1, hρo c x4]
        have f2' : ∀ j, j ≠ 4 → τ1 (28 + 35 * r + 5 * e) j = ρ (28 + 35 * r + 5 * e) j := fun j hj => by
          rw [f2 j hj]
          unfold lvU
          rw [up_ne (by omega), up_ne (by omega)]
        have hte1 : τ1 (28 + 35 * r + 5 * e) 1 = nI t := by
          rw [f2' _ (by decide)]
          exact hte
        have hT1 : cT τ1 n := by
          refine cT_eq (by rw [hτ1 1 (by decide) (by decide) (by omega) (by omega) (by omega) (by omega)]) (hτ1 _ (by decide) (by decide) (by omega) (by omega) (by omega) (by omega)) (fun u _ => ?_) hT
          rw [hτ1 2 (by decide) (by decide) (by omega) (by omega) (by omega) (by omega), hτ1 3 (by decide) (by decide) (by omega) (by omega) (by omega) (by omega), hτ1 4 (by decide) (by decide) (by omega) (by omega) (by omega) (by omega), hτ1 8 (by decide) (by decide) (by omega) (by omega) (by omega) (by omega), hτ1 12 (by decide) (by decide) (by omega) (by omega) (by omega) (by omega), hτ1 6 (by decide) (by decide) (by omega) (by omega) (by omega) (by omega)]
          exact ⟨rfl, rfl, rfl, rfl, rfl, rfl⟩
        have er1 : ∀ c, 232 ≤ c → τ1 c = σ c := fun c hc => hτ1 c (by omega) (by omega) (by omega) (by omega) (by omega) (by omega)
        have eT1 : ∀ c, c < 13 → τ1 c = σ c := fun c hc => hτ1 c (by omega) (by omega) (by omega) (by omega) (by omega) (by omega)
        have hI1 : mTb τ1 n b0 := mTb_hi er1 hI
        have hA1 : aT τ1 n := aT_c (fun c _ c2 => eT1 c c2) (eqC_of (P := fun c => 232 ≤ c) er1 _ (by decide)) hA
        obtain ⟨tl1, tl2, tl3⟩ := tsl_all (mTb_num hI) (t + 1) t (Nat.lt_succ_self t) ht
        have hbm : ∀ w ∈ bl, w ∈ tvs (σ 233) (σ 234) (σ 235) t := fun w hw => by
          rw [← hbl] at hw
          exact (bdL_mem.mp hw).1
        have hbp : ∀ i (hi : i < bl.length), τ1 (28 + 35 * r + 5 * e + 1) i = σ 241 (bl[i]'hi) := fun i hi => by
          have hw := hbm _ (List.getElem_mem hi)
          rw [(hG.2.1 i hi).1, eT 12 (by decide), hplo _ (hvm _ hw).1 (hvm _ hw).2]
        iterate 5 (refine kX_one rfl ?_)
        refine kX_cal (mf_plan L xs d τ1 n b0 r e t bl.length hT1 hI1 hA1 (tsl (σ 233) (σ 234) (σ 235) (t + 1) t) tl2 (by rw [er1 234 (by decide), er1 235 (by decide)]; exact fun u hu => ⟨(tl3 u hu).2.1, (tl3 u hu).2.2.1, (tl3 u hu).2.2.2⟩) (by rw [tl1]; exact h24s) (by rw [er1 233 (by decide), er1 234 (by decide), er1 235 (by decide)]; exact tsl_tvs (mTb_num hI) (t + 1) t (Nat.lt_succ_self t) ht) bl rfl hr4 he ht m1 hte1 m2 (by rw [er1 241 (by decide)]; exact hbp) (by rw [er1 241 (by decide)]; exact fun i hi j hj q => bl_inj hbl hvm hplo hinj hi hj q) (by rw [er1 233 (by decide)]; exact fun w hw => hvm w (hbm w hw))) rfl (Or.inr rfl) rfl (jcall_v rfl rfl rfl (hEv) rfl rfl) rfl (fun r1 σ1 q1 => ?_)
        obtain ⟨rfl, p, ⟨g1, g2⟩, ⟨p1, p2, p3, p4⟩, hP⟩ := q1
        refine kX_lv _ rfl rfl rfl (k71 σ1 ⟨(g2 _ (by decide)).trans hte1, (g2 _ (by decide)).trans ((f2' _ (by decide)).trans (by rw [hρa]; rfl)), fun z => absurd q2 z, fun _ => ⟨⟨(g2 _ (by decide)).trans m2, fun j hj => ?_, fun k' hk' => ?_⟩, hP⟩⟩ (fun c x1 x2 x3 x4 x5 => ?_) ⟨t, bl.length, p, ht, m1, p1, (g2 _ (by decide)).trans hte1, (g2 _ (by decide)).trans m2, p2, fun j hj => ⟨?_, ?_, p4 (j + 1) (by omega)⟩, p3⟩)
        · rw [g1 _ (by omega) (by omega) (by omega) (by omega), g1 _ (by omega) (by omega) (by omega) (by omega), (hG.2.1 j hj).1, (hG.2.1 j hj).2, eT 12 (by decide), hρo _ (by omega)]
          exact ⟨rfl, rfl⟩
        · rw [g1 _ (by omega) (by omega) (by omega) (by omega), hG.2.2 k' hk', eT 12 (by decide), hρo _ (by omega)]
        · rw [g1 c x3 (by omega) (by omega) (by omega)]
          exact hτ1 c x1 x2 x4 (by omega) (by omega) (by omega)
        · rw [g1 _ (by omega) (by omega) (by omega) (by omega)]
          exact (m3 j hj).1
        · rw [g1 _ (by omega) (by omega) (by omega) (by omega)]
          exact (m3 j hj).2
  · have q := qltF q e 6
    omega
end
section
/-! alike: event -/
/-- one EVENT more on both sides -/
theorem bJ_ev {σ τ ω : kS} {n b R S C m r e t v : Nat} {kl : List Nat} {y : Int32} {ST VS W ST2 A : Nat → Int32} {m2 : Int32} (h : aJ σ n b R S C kl m) (hr : r < R) (hcl : σ 250 r = 0) (hev : σ 247 r = nI e) (he : e < 6) (ht : t < n) (hv : σ 244 r = nI v) (hv6 : v ≤ 6) (hall : ∀ u ∈ tvs (σ 233) (σ 234) (σ 235) t, okU σ r e y u) (hJ : cJ τ n R S C) (hP : neP (lvU σ ST VS) τ r e t v y) (hω : ω = evN (evS τ W ST2 m2 A) r e (nI t) y) (hI : mI ω n b R S C kl) : bJ m ω := by
  obtain ⟨i, j, tt, ar, as, ac, k, u, f, mm⟩ := h
  have hR4 := i.2.1.1
  have hn := i.1.1
  have hfe : fN (σ 247 r) = e := by rw [hev, fN_nI (by omega)]
  have hfv : fN (σ 244 r) = v := by rw [hv, fN_nI (by omega)]
  obtain ⟨p1, p2, p3, p4, p5, p6⟩ := hP
  have hlv : ∀ c, c ≠ 20 → c ≠ 21 → lvU σ ST VS c = σ c := fun c x1 x2 => by
    unfold lvU
    rw [up_ne x2, up_ne x1]
  have lo : ∀ c, c < 232 → ω c = τ c := fun c hc => by
    rw [hω]
    unfold evN evS fvS
    rw [up_ne (by omega), up_ne (by omega), up_ne (by omega), up_ne (by omega), up_ne (by omega), up_ne (by omega), up_ne (by omega)]
  have el : ∀ c, c < 232 → c ≠ 20 → c ≠ 21 → c ≠ 22 → c ≠ 26 + 35 * r → c ≠ 23 + 35 * r → (c < 28 + 35 * r + 5 * e ∨ 28 + 35 * r + 5 * e + 5 ≤ c) → ω c = σ c := fun c x0 x1 x2 x3 x4 x5 x6 => (lo c x0).trans ((p1 c x1 x2 x3 x4 x5 x6).trans (hlv c x1 x2))
  have hi : ∀ c, 232 ≤ c → τ c = σ c := fun c hc => (p1 c (by omega) (by omega) (by omega) (by omega) (by omega) (by omega)).trans (hlv c (by omega) (by omega))
  have er : ∀ c, 232 < c → c ≠ 252 → c ≠ 251 → c ≠ 253 → c ≠ 248 → c ≠ 249 → c ≠ 247 → ω c = σ c := fun c x0 x1 x2 x3 x4 x5 x6 => by
    rw [hω]
    unfold evN evS fvS
    rw [up_ne x6, up_ne x5, up_ne x4, up_ne x3, up_ne (by omega), up_ne x2, up_ne x1, hi c (by omega)]
  have hr' : ∀ l : List Nat, l.all (fun c => decide (232 < c ∧ c ≠ 252 ∧ c ≠ 251 ∧ c ≠ 253 ∧ c ≠ 248 ∧ c ≠ 249 ∧ c ≠ 247)) = true → eqC σ ω l := eqC_of (fun c q => er c q.1 q.2.1 q.2.2.1 q.2.2.2.1 q.2.2.2.2.1 q.2.2.2.2.2.1 q.2.2.2.2.2.2)
  have one : ∀ c, [c].all (fun c => decide (232 < c ∧ c ≠ 252 ∧ c ≠ 251 ∧ c ≠ 253 ∧ c ≠ 248 ∧ c ≠ 249 ∧ c ≠ 247)) = true → ω c = σ c := fun c hc => hr' [c] hc c (List.mem_singleton.mpr rfl)
  have eo : ∀ q, q ≠ 22 → ω 232 q = σ 232 q := fun q hq => by
    rw [hω]
    show upd (τ 232) 22 m2 q = _
    rw [pk_un hq, hi 232 (by decide)]
  have e_et : ω 248 = upd (σ 248) (6 * r + e) (nI t) := by
    rw [hω]; show upd (τ 248) (6 * r + e) (nI t) = _; rw [hi _ (by decide)]
  have e_se : ω 249 = upd (σ 249) (6 * r + e) y := by
    rw [hω]; show upd (τ 249) (6 * r + e) y = _; rw [hi _ (by decide)]
  have e_ev : ω 247 = upd (σ 247) r (nI (e + 1)) := by
    rw [hω]; show upd (τ 247) r (nI (e + 1)) = _; rw [hi _ (by decide)]
  have hk2 : ∀ u, u < n → ω 233 u = σ 233 u ∧ ω 234 u = σ 234 u ∧ ω 235 u = σ 235 u ∧ ω 240 u = σ 240 u ∧ ω 241 u = σ 241 u := fun u _ => by
    rw [one 233 (by decide), one 234 (by decide), one 235 (by decide), one 240 (by decide), one 241 (by decide)]
    exact ⟨rfl, rfl, rfl, rfl, rfl⟩
  have hidx : ∀ r' k, r' < R → r' ≠ r → k < 6 → 6 * r' + k ≠ 6 * r + e := fun r' k h1 h2 h3 => by omega
  have hO : ∀ r', r' < R → r' ≠ r → roO σ ω r' := fun r' h1 h2 => by
    unfold roO
    rw [e_ev, e_et, e_se, one 244 (by decide), one 250 (by decide), one 245 (by decide), one 246 (by decide), pk_un h2]
    exact ⟨rfl, rfl, rfl, fun k hk => ⟨rfl, rfl, pk_un (hidx r' k h1 h2 hk), pk_un (hidx r' k h1 h2 hk)⟩⟩
  have hF : ∀ r', r' < R → r' ≠ r → fR σ ω r' n := fun r' h1 h2 => ⟨hO r' h1 h2, hk2, fun c c1 c2 => el c (by omega) (by omega) (by omega) (by omega) (by omega) (by omega) (by omega)⟩
  have hsr : ∀ s, s < S → fN (σ 255 s) < R ∧ fN (σ 255 s) ≠ r := fun s hs => by
    obtain ⟨r', r1, r2, r3, -⟩ := i.2.2.1.2.2 s hs
    rw [r2, fN_nI (by omega)]
    exact ⟨r1, fun e => r3 (by rw [e]; exact hcl)⟩
  -- what is bound in the role r
  have hbd : ∀ dn k, dn ≤ e → (bdv ω r dn k ↔ bdv σ r dn k) := fun dn k hdn => by
    unfold bdv
    rw [one 244 (by decide), one 246 (by decide), one 245 (by decide), one 233 (by decide), one 234 (by decide), one 235 (by decide), e_et, e_se]
    refine and_congr_right (fun _ => or_congr_right (exists_congr (fun e' => and_congr_right (fun he' => ?_))))
    rw [pk_un (show 6 * r + e' ≠ 6 * r + e by omega), pk_un (show 6 * r + e' ≠ 6 * r + e by omega)]
  have hbd1 : ∀ k, k < v → σ 246 (6 * r + k) = nI 2 → (bdv ω r (e + 1) k ↔ bdv σ r e k ∨ (y = 0 ∧ fN (σ 245 (6 * r + k)) ∈ tvs (σ 233) (σ 234) (σ 235) t)) := fun k hk ha => by
    unfold bdv
    rw [one 244 (by decide), one 246 (by decide), one 245 (by decide), one 233 (by decide), one 234 (by decide), one 235 (by decide), e_et, e_se]
    constructor
    · rintro ⟨h1, h2 | ⟨e', h2, h3, h4⟩⟩
      · exact absurd ha h2
      · by_cases q : e' = e
        · subst q
          rw [pk_us] at h3 h4
          rw [fN_nI (by omega)] at h4
          exact Or.inr ⟨h3, h4⟩
        · rw [pk_un (show 6 * r + e' ≠ 6 * r + e by omega)] at h3 h4
          exact Or.inl ⟨h1, Or.inr ⟨e', by omega, h3, h4⟩⟩
    · rintro (⟨h1, h2⟩ | ⟨h2, h3⟩)
      · rcases h2 with h2 | ⟨e', h2, h3, h4⟩
        · exact absurd ha h2
        · refine ⟨h1, Or.inr ⟨e', by omega, ?_, ?_⟩⟩
          · rw [pk_un (show 6 * r + e' ≠ 6 * r + e by omega)]
            exact h3
          · rw [pk_un (show 6 * r + e' ≠ 6 * r + e by omega)]
            exact h4
      · refine ⟨by rw [hfv]; exact hk, Or.inr ⟨e, by omega, ?_, ?_⟩⟩
        · rw [pk_us]
          exact h2
        · rw [pk_us, fN_nI (by omega)]
          exact h3
  -- the VARIABLES of the EVENT
  have hvu : ∀ w ∈ tvs (σ 233) (σ 234) (σ 235) t, ∃ k, k < v ∧ σ 241 w = nI k ∧ σ 12 w = nI k ∧ σ 245 (6 * r + k) = nI w ∧ w < n ∧ σ (25 + 35 * r) k = σ 240 w := fun w hw => by
    have hwn := tvs_mem (mTb_num i.1) t ht w hw
    obtain ⟨r2, k2, a1, a2, a3⟩ := i.2.1.2.2.2.2.1 w hwn.1 hwn.2.1
    obtain ⟨t', so', as', b1, b2, b3, b4, b5, -⟩ := i.2.1.2.2.2.1 r2 k2 a1 a2
    obtain rfl : w = t' := nI_inj (a3.symm.trans b2) (by omega) (by omega)
    obtain rfl : r2 = r := nI_inj (b4.symm.trans (hall w hw).1) (by omega) (by omega)
    rw [hfv] at a2
    refine ⟨k2, a2, b5, ((tt.1 w hwn.1).2.2.2.2.2.2 hwn.2.1).2.2.trans b5, a3, hwn.1, ?_⟩
    rw [((ar r2 hr).2.2.2.1 k2 (by omega)).2.1, a3, fN_nI (by omega)]
  obtain ⟨g1, g2, g3, g4, g5⟩ := ar r hr
  have hLp : lvU σ ST VS 12 = σ 12 := hlv _ (by decide) (by decide)
  have hLk : tvs (lvU σ ST VS 233) (lvU σ ST VS 234) (lvU σ ST VS 235) t = tvs (σ 233) (σ 234) (σ 235) t := by rw [hlv 233 (by decide) (by decide), hlv 234 (by decide) (by decide), hlv 235 (by decide) (by decide)]
  have hLb : bdL (lvU σ ST VS) r v (tvs (σ 233) (σ 234) (σ 235) t) = bdL σ r v (tvs (σ 233) (σ 234) (σ 235) t) := bdL_eq (hlv _ (by omega) (by omega)) (hlv _ (by omega) (by omega)) hLp
  -- a VARIABLE waits if it is RECEIVED and not bound yet
  have hwf : ∀ k, k < v → (wfr σ r v (nI k) ↔ ¬ bdv σ r e k) := fun k hk => by
    obtain ⟨c1, c2, c3⟩ := g4 k (by omega)
    rw [hfe] at c3
    constructor
    · rintro ⟨k', k1, k2, k3, k4⟩ hb
      obtain rfl : k = k' := nI_inj k2
      rw [c1] at k3
      exact (c3 k3).mpr hb k4
    · intro hb
      have ha : σ 246 (6 * r + k) = nI 2 := Classical.byContradiction (fun z => hb ⟨by omega, Or.inl z⟩)
      exact ⟨k, hk, rfl, c1.trans ha, Classical.byContradiction (fun z => hb ((c3 ha).mp z))⟩
  have hbls : y = 0 → bls ω r e = bdL σ r v (tvs (σ 233) (σ 234) (σ 235) t) := fun hy => by
    unfold bls bdL
    rw [e_et, pk_us, fN_nI (by omega), one 233 (by decide), one 234 (by decide), one 235 (by decide), one 241 (by decide)]
    refine fl_congr (fun w hw => ?_)
    have hw2 : w ∈ tvs (σ 233) (σ 234) (σ 235) t := by
      rcases (ddl_mem _ _).mp hw with q | q
      · cases q
      · exact q
    obtain ⟨k', k1, k2, k3, k4, k5, -⟩ := hvu w hw2
    rw [k2, k3, fN_nI (by omega), hwf k' k1]
    unfold nbv
    rw [hbd e k' (Nat.le_refl _)]
    constructor
    · exact fun z => z.2
    · intro z
      have ha : σ 246 (6 * r + k') = nI 2 := Classical.byContradiction (fun q => z ⟨by omega, Or.inl q⟩)
      exact ⟨(hbd1 k' k1 ha).mpr (Or.inr ⟨hy, by rw [k4, fN_nI (by omega)]; exact hw2⟩), z⟩
  refine ⟨n, b, R, S, C, kl, hI, cJ_low lo hJ, aT_c (fun c c1 c2 => el c (by omega) (by omega) (by omega) (by omega) (by omega) (by omega) (by omega)) (hr' _ (by decide)) tt, fun r' hr2 => ?_, fun s hs => ?_, aC_c i.2.2.2.2.1 (fun c c1 c2 => el c (by omega) (by omega) (by omega) (by omega) (by omega) (by omega) (by omega)) (hr' _ (by decide)) ac, aK_eq (by rw [el 13 (by decide) (by decide) (by decide) (by decide) (by omega) (by omega) (by omega)]) (el _ (by decide) (by decide) (by decide) (by decide) (by omega) (by omega) (by omega)) k, ?_, aF_R (n := n) (R := R) (aF_fr (n' := n) i.1 i.2.1 i.2.2.1 (el _ (by decide) (by decide) (by decide) (by decide) (by omega) (by omega) (by omega)) (el _ (by decide) (by decide) (by decide) (by decide) (by omega) (by omega) (by omega)) (el _ (by decide) (by decide) (by decide) (by decide) (by omega) (by omega) (by omega)) (el _ (by decide) (by decide) (by decide) (by decide) (by omega) (by omega) (by omega)) ⟨eo _ (by decide), eo _ (by decide), eo _ (by decide), eo _ (by decide)⟩ (one _ (by decide)) (one _ (by decide)) (one _ (by decide)) (fun s _ => by rw [one 255 (by decide)]) (fun s hs => hF _ (hsr s hs).1 (hsr s hs).2) f), aM_eq (Nat.le_refl _) (fun c c1 c2 => el c (by omega) (by omega) (by omega) (by omega) (by omega) (by omega) (by omega)) mm⟩
  · by_cases q : r' = r
    · subst q
      have c23 : ω (23 + 35 * r') = upd (σ (23 + 35 * r')) 5 (nI (e + 1)) := by
        rw [lo _ (by omega), p2, hlv _ (by omega) (by omega)]
      have c24 : ω (24 + 35 * r') = σ (24 + 35 * r') := el _ (by omega) (by omega) (by omega) (by omega) (by omega) (by omega) (by omega)
      have c25 : ω (25 + 35 * r') = σ (25 + 35 * r') := el _ (by omega) (by omega) (by omega) (by omega) (by omega) (by omega) (by omega)
      have cE : ∀ q, q < 5 → ω (28 + 35 * r' + 5 * e + q) = τ (28 + 35 * r' + 5 * e + q) := fun q _ => lo _ (by omega)
      unfold aR1
      rw [c23, c24, c25, e_ev, show upd (σ 247) r' (nI (e + 1)) r' = nI (e + 1) from pk_us, fN_nI (by omega), one 244 (by decide), one 250 (by decide), one 246 (by decide), one 240 (by decide), one 245 (by decide)]
      refine ⟨g1, pk_us, g3, fun k hk => ?_, fun e' he' => ?_⟩
      · obtain ⟨d1, d2, d3⟩ := g4 k hk
        rw [hfv] at hk
        rw [hfe] at d3
        refine ⟨d1, d2, fun ha => ?_⟩
        rw [hbd1 k hk ha, ← d3 ha, lo _ (by omega)]
        by_cases hy : y = 0
        · obtain ⟨bg, -⟩ := p6 hy
          rw [hLk, hLb] at bg
          have bk := bg.2.2 k hk
          rw [hlv (26 + 35 * r') (by omega) (by omega), hLp] at bk
          constructor
          · intro z
            by_cases hz : σ (26 + 35 * r') k = 0
            · refine Or.inr ⟨hy, ?_⟩
              have : ¬ ∀ w ∈ bdL σ r' v (tvs (σ 233) (σ 234) (σ 235) t), σ 12 w ≠ nI k := fun q => z (bk.mpr ⟨hz, q⟩)
              have ⟨w, hw⟩ := Classical.not_forall.mp this
              have ⟨hw1, hw2⟩ := Classical.not_imp.mp hw
              have hw2 := Classical.not_not.mp hw2
              have hw3 := (bdL_mem.mp hw1).1
              obtain ⟨k', k1, k2, k3, k4, k5, -⟩ := hvu w hw3
              obtain rfl : k' = k := nI_inj (k3.symm.trans hw2)
              rw [k4, fN_nI (by omega)]
              exact hw3
            · exact Or.inl hz
          · rintro (z | ⟨-, z⟩) hq
            · exact z (bk.mp hq).1
            · obtain ⟨hz, hno⟩ := bk.mp hq
              obtain ⟨k', k1, k2, k3, k4, k5, -⟩ := hvu _ z
              obtain ⟨tv, sv, asv, w1, w2, w3, w4, w5, -⟩ := i.2.1.2.2.2.1 r' k hr (by omega)
              rw [w2, fN_nI (by omega)] at z k2 k3
              obtain rfl : k' = k := nI_inj (k2.symm.trans w5)
              refine hno tv (bdL_mem.mpr ⟨z, ?_⟩) k3
              rw [k3, hwf k' hk, ← d3 ha]
              exact fun q => q hz
        · rw [(p5 hy).2, hlv _ (by omega) (by omega)]
          exact ⟨Or.inl, fun z => z.elim id (fun z => absurd z.1 hy)⟩
      · by_cases q : e' = e
        · subst q
          unfold aE
          have cA : ω (28 + 35 * r' + 5 * e') = τ (28 + 35 * r' + 5 * e') := lo _ (by omega)
          rw [cA, p3, p4, e_et, e_se, show upd (σ 248) (6 * r' + e') (nI t) (6 * r' + e') = nI t from pk_us, show upd (σ 249) (6 * r' + e') y (6 * r' + e') = y from pk_us, fN_nI (by omega)]
          refine ⟨rfl, Iff.rfl, fun z => (p5 z).1, fun hy => ?_⟩
          rw [hbls hy]
          obtain ⟨bg, ap⟩ := p6 hy
          rw [hLk, hLb] at bg ap
          have hvm : ∀ w ∈ bdL σ r' v (tvs (σ 233) (σ 234) (σ 235) t), w ∈ tvs (σ 233) (σ 234) (σ 235) t := fun w hw => (bdL_mem.mp hw).1
          refine ⟨bg.1, ?_, fun q hq => ?_, ?_⟩
          · refine op_len (σ := σ) bdL_nd (fun w hw => ?_) (fun w hw x hx hne he2 => hne ?_)
            · obtain ⟨k', k1, k2, -⟩ := hvu w (hvm w hw)
              exact ⟨k', by omega, k2⟩
            · obtain ⟨k', k1, k2, -, k4, k5, -⟩ := hvu w (hvm w hw)
              obtain ⟨k'', l1, l2, -, l4, l5, -⟩ := hvu x (hvm x hx)
              obtain rfl : k' = k'' := nI_inj (k2.symm.trans (he2.trans l2))
              exact nI_inj (k4.symm.trans l4)
          · obtain ⟨b1, b2⟩ := bg.2.1 q hq
            have hw := hvm _ (List.getElem_mem hq)
            obtain ⟨k', k1, k2, k3, k4, k5, k6⟩ := hvu _ hw
            rw [hLp, k3] at b1 b2
            rw [hlv _ (by omega) (by omega), fN_nI (by omega), k6] at b2
            have c29 : ω (29 + 35 * r' + 5 * e') = τ (28 + 35 * r' + 5 * e' + 1) := by rw [show 29 + 35 * r' + 5 * e' = 28 + 35 * r' + 5 * e' + 1 by omega]; exact cE 1 (by omega)
            have c30 : ω (30 + 35 * r' + 5 * e') = τ (28 + 35 * r' + 5 * e' + 2) := by rw [show 30 + 35 * r' + 5 * e' = 28 + 35 * r' + 5 * e' + 2 by omega]; exact cE 2 (by omega)
            rw [c29, c30, one 241 (by decide), one 240 (by decide), b1, b2, k2]
            exact ⟨rfl, rfl⟩
          · unfold aP opn at ap ⊢
            rw [cA, cE 3 (by omega), cE 4 (by omega), one 233 (by decide), one 234 (by decide), one 235 (by decide)]
            rw [hi 233 (by decide), hi 234 (by decide), hi 235 (by decide)] at ap
            exact ap
        · have he2 : e' < e := by omega
          refine aE_g i.1 i.2.1 hr (by omega) hk2 (by rw [e_et, pk_un (by omega)]) (by rw [e_se, pk_un (by omega)]) ?_ (fun q hq => el _ (by omega) (by omega) (by omega) (by omega) (by omega) (by omega) (by omega)) (g5 e' (by omega))
          unfold bls
          rw [e_et, pk_un (by omega), one 233 (by decide), one 234 (by decide), one 235 (by decide), one 241 (by decide)]
          refine fl_congr (fun w hw => ?_)
          unfold nbv
          rw [hbd _ _ (by omega), hbd _ _ (by omega)]
    · exact fR_aR1 i.1 i.2.1 (hF r' hr2 q) hr2 (ar r' hr2)
  · exact fS_aS1 i.1.1 i.2.1 i.2.2.1 hs ⟨by rw [one 255 (by decide)], fun k _ => by rw [one 256 (by decide)], hO _ (hsr s hs).1 (hsr s hs).2, fun u _ => by rw [one 238 (by decide)], by rw [el _ (by decide) (by decide) (by decide) (by decide) (by omega) (by omega) (by omega)], by rw [el _ (by decide) (by decide) (by decide) (by decide) (by omega) (by omega) (by omega)], fun k _ => by rw [el _ (by decide) (by decide) (by decide) (by decide) (by omega) (by omega) (by omega)]⟩ (as s hs)
  · unfold aU at u ⊢
    rw [el 181 (by decide) (by decide) (by decide) (by decide) (by omega) (by omega) (by omega), el 17 (by decide) (by decide) (by decide) (by decide) (by omega) (by omega) (by omega), el 183 (by decide) (by decide) (by decide) (by decide) (by omega) (by omega) (by omega), el 182 (by decide) (by decide) (by decide) (by decide) (by omega) (by omega) (by omega), eo 52 (by decide), eo 55 (by decide), one 274 (by decide), one 264 (by decide), one 265 (by decide)]
    refine ⟨u.1, fun q => ?_⟩
    obtain ⟨h1, h2, h3, h5, h4⟩ := u.2 q
    refine ⟨h1, h2, h3, h5, fun hg => ?_⟩
    obtain ⟨ds, d1, d2, d4, d5, d3⟩ := h4 hg
    refine ⟨ds, d1, d2, d4, d5, ?_⟩
    rcases i.2.2.2.2.2.1 with i6 | ⟨-, ds', q1, -⟩
    · exact absurd i6 q
    · have ed : ds' = ds := lst_inj (mRn_len i.2.1 i.2.2.1.1 q1) d4 (fun s hs => by have := q1.2.2.1 s hs; have := i.2.2.1.1; omega) (fun s hs => by have := d5 s hs; have := i.2.2.1.1; omega) (q1.1.symm.trans d1) q1.2.1 d2
      subst ed
      have hFr : mFr τ (evS τ W ST2 m2 A) n := mFr_ev τ n W ST2 m2 A
      have hIt : mI τ n b R S C kl := mI_hi hi i
      have q1t : mRn τ n R S ds' := by
        have := q1
        unfold mRn mSn mVk mSt at this ⊢
        rw [hi 232 (by decide), hi 274 (by decide), hi 255 (by decide), hi 264 (by decide), hi 247 (by decide), hi 265 (by decide), hi 244 (by decide), hi 246 (by decide), hi 233 (by decide), hi 234 (by decide), hi 235 (by decide), hi 240 (by decide), hi 245 (by decide), hi 248 (by decide), hi 241 (by decide), hi 249 (by decide)]
        exact this
      have t1 : trRun (evS τ W ST2 m2 A) kl ds' = trRun τ kl ds' := mFr_trRun hIt.1 hIt.2.1 hFr hIt.2.2.2.1 q1t
      have t2 : trRun τ kl ds' = trRun σ kl ds' := trRun_eq ⟨hi _ (by decide), hi _ (by decide), hi _ (by decide), hi _ (by decide), hi _ (by decide), hi _ (by decide), hi _ (by decide), hi _ (by decide), hi _ (by decide)⟩
      have hE0 : mI (evS τ W ST2 m2 A) n b R S C kl := mI_ev hIt W ST2 m2 A
      have q1e : mRn (evS τ W ST2 m2 A) n R S ds' := mFr_Rn hIt.1 hIt.2.1 hFr q1t
      have t3 : trRun ω kl ds' = trRun (evS τ W ST2 m2 A) kl ds' := by
        rw [hω]
        refine ro_trRun hE0.1 (Nat.le_refl _) hE0.2.1 (roF_ev (evS τ W ST2 m2 A) r e (nI t) y) (fun s hs => ?_) (fun t ht => ⟨rfl, rfl⟩) q1e
        have hne := (hsr s hs).2
        rw [show evS τ W ST2 m2 A 255 s = σ 255 s from congrFun (hi _ (by decide)) s]
        have hlt := (hsr s hs).1
        exact ⟨rfl, pk_un hne, rfl, fun k hk => ⟨rfl, rfl, pk_un (by omega), pk_un (by omega)⟩⟩
      rw [t3, t1, t2]
      exact kOk_eq (fun c _ c2 => el c (by omega) (by omega) (by omega) (by omega) (by omega) (by omega) (by omega)) (fun c _ c2 => el c (by omega) (by omega) (by omega) (by omega) (by omega) (by omega) (by omega)) (fun t _ => by rw [one 233 (by decide)]) (one _ (by decide)) d3
end
section
/-! alike: event, both -/
/-- what listVariables leaves behind matters to nobody -/
theorem aJ_lv {σ : kS} {n b R S C m : Nat} {kl : List Nat} {ST VS : Nat → Int32} (h : aJ σ n b R S C kl m) (h2 : cJ (lvU σ ST VS) n R S C) : aJ (lvU σ ST VS) n b R S C kl m := by
  have hlv : ∀ c, c ≠ 20 → c ≠ 21 → lvU σ ST VS c = σ c := fun c x1 x2 => by
    unfold lvU
    rw [up_ne x2, up_ne x1]
  have hi : ∀ c, 232 ≤ c → lvU σ ST VS c = σ c := fun c hc => hlv c (by omega) (by omega)
  have hr : ∀ l : List Nat, l.all (fun c => decide (232 ≤ c)) = true → eqC σ (lvU σ ST VS) l := eqC_of hi
  have h232 : lvU σ ST VS 232 = σ 232 := hi _ (by decide)
  obtain ⟨i, j, tt, ar, as, ac, k, u, f, mm⟩ := h
  exact ⟨mI_hi hi i, h2, aT_c (fun c c1 c2 => hlv c (by omega) (by omega)) (hr _ (by decide)) tt, aR_c i.1 i.2.1 (fun c c1 c2 => hlv c (by omega) (by omega)) (hr _ (by decide)) ar, aS_c i.1.1 i.2.1 i.2.2.1 (hlv _ (by decide) (by decide)) (hlv _ (by decide) (by decide)) (hlv _ (by decide) (by decide)) (hr _ (by decide)) as, aC_c i.2.2.2.2.1 (fun c c1 c2 => hlv c (by omega) (by omega)) (hr _ (by decide)) ac, aK_eq (by rw [hlv 13 (by decide) (by decide)]) (hlv _ (by decide) (by decide)) k, aU_c (fun c c1 c2 => hlv c (by omega) (by omega)) (fun c c1 c2 => hlv c (by omega) (by omega)) (hlv _ (by decide) (by decide)) (hr _ (by decide)) (by rw [h232]) (by rw [h232]) u, aF_c i.1 i.2.1 i.2.2.1 (fun c c1 c2 => hlv c (by omega) (by omega)) (hr _ (by decide)) (hlv _ (by decide) (by decide)) (hlv _ (by decide) (by decide)) (hlv _ (by decide) (by decide)) (hlv _ (by decide) (by decide)) ⟨by rw [h232], by rw [h232], by rw [h232], by rw [h232]⟩ (hr _ (by decide)) f, aM_eq (Nat.le_refl _) (fun c c1 c2 => hlv c (by omega) (by omega)) mm⟩
set_option maxRecDepth 100000 in
set_option maxHeartbeats 4000000 in
theorem bo_event (L : Nat) (xs : Nat → Int32) (d d' m : Nat) (σ : kS) (x b z : Int32) (hb : b = 0 ∨ b = 1) (h : bJ m σ) : kXM kT L xs (d + 6) 116 [.ref 0, .int x, .int b, .int z] σ (fun r τ => ∃ z', r = some (.int z') ∧ kXM kT L xs (d' + 3) 166 [.ref 232, .int x, .int b, .int z] τ (fun r' ω => r' = some (.int z') ∧ bJ m ω)) := by
  have hbj := h
  obtain ⟨n, b0, R, S, C, kl, hA⟩ := h
  have hI := hA.1
  have h := hA.2.1
  have hT := h.1
  have hn := hT.1
  have hR := h.2.1
  have hR4 := hR.1
  unfold kXM
  have k22 : ¬ (isN x R ∧ isN z n) → kX kT L xs (d + 6) 116 22 (lv_args 0 [.ref 0, .int x, .int b, .int z]) [] σ (fun r τ => ∃ z', r = some (.int z') ∧ kXM kT L xs (d' + 3) 166 [.ref 232, .int x, .int b, .int z] τ (fun r' ω => r' = some (.int z') ∧ bJ m ω)) := by
    intro q
    repeat refine kX_one rfl ?_
    refine kX_ret (i := .ireturn) (len := 1) rfl (Or.inr rfl) rfl (⟨_, rfl, mg_event L xs d' σ n b0 R S C kl _ _ _ hb _ hI (fun _ => ⟨rfl, hbj⟩) (fun r t c1 c2 c3 c4 => absurd ⟨⟨r, c1, c2⟩, t, c3, c4⟩ q) (fun r t c1 c2 c3 c4 => absurd ⟨⟨r, c1, c2⟩, t, c3, c4⟩ q) (fun r t ev W ST m A c1 c2 c3 c4 => absurd ⟨⟨r, c1, c2⟩, t, c3, c4⟩ q) (fun r t ev W ST m A c1 c2 c3 c4 => absurd ⟨⟨r, c1, c2⟩, t, c3, c4⟩ q)⟩)
  iterate 3 (refine kX_one rfl ?_)
  refine kX_cal (mc_hasRole L xs (d + 4) σ R x hR4 hR.2.1) rfl (Or.inr rfl) rfl rfl rfl (fun r1 σ1 q1 => ?_)
  obtain ⟨rfl, rfl⟩ := q1
  repeat refine kX_one rfl ?_
  refine kX_if (fun q => ?_) (fun q => ?_)
  · exact k22 (fun e => isB_ne.mpr e.1 (qeq q))
  · obtain ⟨r, hr, rfl⟩ := isB_ne.mp (qeqF q)
    have hr4 : r < 4 := by omega
    obtain ⟨v, e, v1, e1, v2, e2, so1, ev1⟩ := hR.2.2 r hr
    obtain ⟨f1, f2, f3, f4, f5⟩ := hA.2.2.2.1 r hr
    have hvr : σ 244 r = nI v := f1.symm.trans v2
    have her : σ 247 r = nI e := f2.symm.trans e2
    have hfv : fN (σ 244 r) = v := by rw [hvr, fN_nI (by omega)]
    have hfe : fN (σ 247 r) = e := by rw [her, fN_nI (by omega)]
    iterate 3 (refine kX_one rfl ?_)
    refine kX_cal (mc_has L xs (d + 4) σ n z hn hT.2.1) rfl (Or.inr rfl) rfl rfl rfl (fun r1 σ1 q1 => ?_)
    obtain ⟨rfl, rfl⟩ := q1
    repeat refine kX_one rfl ?_
    refine kX_if (fun q2 => ?_) (fun q2 => ?_)
    · obtain ⟨t, ht, rfl⟩ := isB_ne.mp (qne q2)
      have uni : ∀ r' t', r' < R → nI r = nI r' → t' < n → nI t = nI t' → r' = r ∧ t' = t := fun r' t' c1 c2 c3 c4 => ⟨(nI_inj c2).symm, (nI_inj c4).symm⟩
      iterate 4 (refine kX_one rfl ?_)
      refine kX_aaldN rfl (rfl) (by decide) (by decide) (by decide) (r) (by first | rfl | decide) (hr4) (ro_at hr4) ?_
      iterate 2 (refine kX_one rfl ?_)
      refine kX_getN rfl rfl (kT_ro hr4) rfl ?_
      repeat refine kX_one rfl ?_
      refine kX_if (fun q3 => ?_) (fun q3 => ?_)
      · have hcl : σ 250 r = 0 := Classical.byContradiction (fun z => f3.mpr z (qeq q3))
        iterate 1 (refine kX_one rfl ?_)
        refine kX_getN rfl rfl (kT_ro hr4) rfl ?_
        refine kX_top (e2) ?_
        iterate 1 (refine kX_one rfl ?_)
        repeat refine kX_one rfl ?_
        refine kX_if (fun q4 => ?_) (fun q4 => ?_)
        · have q4 := qlt q4 e 6
          iterate 5 (refine kX_one rfl ?_)
          refine kX_cal (mf_mayBeEvent L xs (d + 2) σ n b0 R r t v b hT hI.1 hA.2.2.1 hR4 hr ht v1 v2) rfl (Or.inr rfl) rfl rfl rfl (fun r1 σ1 q1 => ?_)
          obtain ⟨rfl, ST, VS, rfl⟩ := q1
          have hlv : ∀ c, c ≠ 20 → c ≠ 21 → lvU σ ST VS c = σ c := fun c x1 x2 => by
            unfold lvU
            rw [up_ne x2, up_ne x1]
          have h2 : cJ (lvU σ ST VS) n R S C := by
            refine cJ_lo h (fun c hc => hlv c (by omega) (by omega)) (fun j _ => by rw [hlv 13 (by decide) (by decide)]) ⟨hR4, by rw [hlv 13 (by decide) (by decide)]; exact hR.2.1, fun r' hr' => cR1_eq (fun c c1 c2 => hlv c (by omega) (by omega)) (hR.2.2 r' hr')⟩ (Nat.le_refl _)
          have hhi : ∀ c, 232 ≤ c → lvU σ ST VS c = σ c := fun c hc => hlv c (by omega) (by omega)
          -- both sides ask the same
          have hok : ∀ u ∈ tvs (σ 233) (σ 234) (σ 235) t, (okC σ r v b u ↔ okU σ r e b u) := fun u hu => by
            have hun := tvs_mem (mTb_num hI.1) t ht u hu
            obtain ⟨t1, t2, t3⟩ := (hA.2.2.1.1 u hun.1).2.2.2.2.2.2 hun.2.1
            unfold okC okU
            rw [t1, t3]
            refine and_congr_right (fun ho => imp_congr_right (fun hb' => ?_))
            obtain ⟨r2, k2, a1, a2, a3⟩ := hI.2.1.2.2.2.2.1 u hun.1 hun.2.1
            obtain ⟨t', so', as', b1, b2, b3, b4, b5, -⟩ := hI.2.1.2.2.2.1 r2 k2 a1 a2
            obtain rfl : u = t' := nI_inj (a3.symm.trans b2) (by omega) (by omega)
            obtain rfl : r2 = r := nI_inj (b4.symm.trans ho) (by omega) (by omega)
            rw [hfv] at a2
            obtain ⟨c1, c2, c3⟩ := f4 k2 (by omega)
            rw [hfe] at c3
            rw [b5, fN_nI (by omega)]
            constructor
            · intro hw ha
              have hb2 : bdv σ r2 e k2 := (c3 ha).mp (fun z => hw ⟨k2, a2, rfl, c1.trans ha, z⟩)
              rcases hb2.2 with z | ⟨e', y1, y2, y3⟩
              · exact absurd ha z
              · rw [a3, fN_nI (by omega)] at y3
                exact ⟨e', y1, y2, y3⟩
            · rintro hw ⟨k', k1, k2', k3, k4⟩
              obtain rfl : k2 = k' := nI_inj k2'
              rw [c1] at k3
              obtain ⟨e', y1, y2, y3⟩ := hw k3
              exact (c3 k3).mpr ⟨by omega, Or.inr ⟨e', y1, y2, by rw [a3, fN_nI (by omega)]; exact y3⟩⟩ k4
          repeat refine kX_one rfl ?_
          refine kX_if (fun qm => ?_) (fun qm => ?_)
          rotate_left
          · have hno : ¬ ∀ u ∈ tvs (σ 233) (σ 234) (σ 235) t, okU σ r e b u := fun q => isB_ne.mpr (fun u hu => (hok u hu).mpr (q u hu)) (qneF qm)
            have hJ2 : aJ (lvU σ ST VS) n b0 R S C kl m := aJ_lv hA h2
            have eC : lvU σ ST VS 250 = σ 250 := hhi _ (by decide)
            have eE : lvU σ ST VS 247 = σ 247 := hhi _ (by decide)
            repeat refine kX_one rfl ?_
            refine kX_ret (i := .ireturn) (len := 1) rfl (Or.inr rfl) rfl ⟨_, rfl, mg_event L xs d' (lvU σ ST VS) n b0 R S C kl _ _ _ hb _ hJ2.1 (fun q => absurd ⟨⟨r, hr, rfl⟩, t, ht, rfl⟩ q) (fun r' t' c1 c2 c3 c4 c5 => ?_) (fun r' t' c1 c2 c3 c4 c5 c6 => ?_) (fun r' t' ev W ST' m' A c1 c2 c3 c4 c5 c6 c7 c8 c9 => ⟨rfl, bJ_fr hJ2 (mLow_fr (mFr_ev _ n W ST' m' A)) (mFr_ev _ n W ST' m' A) c9⟩) (fun r' t' ev W ST' m' A c1 c2 c3 c4 c5 c6 c7 c8 => ?_)⟩
            · obtain ⟨rfl, rfl⟩ := uni r' t' c1 c2 c3 c4
              rw [eC] at c5
              exact absurd hcl c5
            · obtain ⟨rfl, rfl⟩ := uni r' t' c1 c2 c3 c4
              rw [eE, her] at c6
              have := nI_inj c6
              omega
            · obtain ⟨rfl, rfl⟩ := uni r' t' c1 c2 c3 c4
              rw [eE, her] at c6
              obtain rfl : e = ev := nI_inj c6
              refine absurd ?_ hno
              rw [hhi 233 (by decide), hhi 234 (by decide), hhi 235 (by decide)] at c8
              intro u hu
              have := c8 u hu
              unfold okU rcv at this ⊢
              rw [hhi 239 (by decide), hhi 246 (by decide), hhi 241 (by decide), hhi 249 (by decide), hhi 233 (by decide), hhi 234 (by decide), hhi 235 (by decide), hhi 248 (by decide)] at this
              exact this
          · have hyes : ∀ u ∈ tvs (σ 233) (σ 234) (σ 235) t, okU σ r e b u := fun u hu => (hok u hu).mp (isB_ne.mp (qne qm) u hu)
            have hvu : ∀ w ∈ tvs (σ 233) (σ 234) (σ 235) t, ∃ k, k < v ∧ σ 12 w = nI k ∧ σ 245 (6 * r + k) = nI w ∧ w < n := fun w hw => by
              have hwn := tvs_mem (mTb_num hI.1) t ht w hw
              obtain ⟨r2, k2, a1, a2, a3⟩ := hI.2.1.2.2.2.2.1 w hwn.1 hwn.2.1
              obtain ⟨t', so', as', b1, b2, b3, b4, b5, -⟩ := hI.2.1.2.2.2.1 r2 k2 a1 a2
              obtain rfl : w = t' := nI_inj (a3.symm.trans b2) (by omega) (by omega)
              obtain rfl : r2 = r := nI_inj (b4.symm.trans (hyes w hw).1) (by omega) (by omega)
              rw [hfv] at a2
              exact ⟨k2, a2, ((hA.2.2.1.1 w hwn.1).2.2.2.2.2.2 hwn.2.1).2.2.trans b5, a3, hwn.1⟩
            have etv : tvs (lvU σ ST VS 233) (lvU σ ST VS 234) (lvU σ ST VS 235) t = tvs (σ 233) (σ 234) (σ 235) t := by rw [hhi 233 (by decide), hhi 234 (by decide), hhi 235 (by decide)]
            have ePl : lvU σ ST VS 12 = σ 12 := hlv _ (by decide) (by decide)
            iterate 5 (refine kX_one rfl ?_)
            refine kX_cal (mf_newEvent L xs d (lvU σ ST VS) n b0 R S C r e t v b h2 (mTb_hi hhi hI.1) (aT_c (fun c c1 c2 => hlv c (by omega) (by omega)) (eqC_of (P := fun c => 232 ≤ c) hhi _ (by decide)) hA.2.2.1) v1 (by rw [hlv _ (by omega) (by omega)]; exact v2) (by rw [etv, ePl]; exact fun u hu => by obtain ⟨k', k1, k2, -⟩ := hvu u hu; exact ⟨k', k1, k2⟩) (by
              rw [etv, ePl]
              intro u hu w hw q
              obtain ⟨k', k1, k2, k3, k4⟩ := hvu u hu
              obtain ⟨k'', l1, l2, l3, l4⟩ := hvu w hw
              obtain rfl : k' = k'' := nI_inj (k2.symm.trans (q.trans l2))
              exact nI_inj (k3.symm.trans l3)) hr q4 (by rw [hlv _ (by omega) (by omega)]; exact e2) ht hb) rfl (Or.inr rfl) rfl rfl rfl (fun r1 τ q1 => ?_)
            obtain ⟨rfl, hJτ, hneP⟩ := q1
            have hiτ : ∀ c, 232 ≤ c → τ c = σ c := fun c hc => (hneP.1 c (by omega) (by omega) (by omega) (by omega) (by omega) (by omega)).trans (hhi c hc)
            have hIτ := aJ_hi hA hiτ
            have eC : τ 250 = σ 250 := hiτ _ (by decide)
            have eE : τ 247 = σ 247 := hiτ _ (by decide)
            have hyτ : ∀ u ∈ tvs (τ 233) (τ 234) (τ 235) t, okU τ r e b u := by
              rw [hiτ 233 (by decide), hiτ 234 (by decide), hiτ 235 (by decide)]
              intro u hu
              have := hyes u hu
              unfold okU rcv at this ⊢
              rw [hiτ 239 (by decide), hiτ 246 (by decide), hiτ 241 (by decide), hiτ 249 (by decide), hiτ 233 (by decide), hiτ 234 (by decide), hiτ 235 (by decide), hiτ 248 (by decide)]
              exact this
            refine kX_ret (i := .ireturn) (len := 1) rfl (Or.inr rfl) rfl ⟨_, rfl, mg_event L xs d' τ n b0 R S C kl _ _ _ hb _ hIτ (fun q => absurd ⟨⟨r, hr, rfl⟩, t, ht, rfl⟩ q) (fun r' t' c1 c2 c3 c4 c5 => ?_) (fun r' t' c1 c2 c3 c4 c5 c6 => ?_) (fun r' t' ev W ST' m' A c1 c2 c3 c4 c5 c6 c7 c8 c9 => ?_) (fun r' t' ev W ST' m' A c1 c2 c3 c4 c5 c6 c7 c8 c9 => ?_)⟩
            · obtain ⟨rfl, rfl⟩ := uni r' t' c1 c2 c3 c4
              rw [eC] at c5
              exact absurd hcl c5
            · obtain ⟨rfl, rfl⟩ := uni r' t' c1 c2 c3 c4
              rw [eE, her] at c6
              have := nI_inj c6
              omega
            · obtain ⟨rfl, rfl⟩ := uni r' t' c1 c2 c3 c4
              rw [eE, her] at c6
              obtain rfl : e = ev := nI_inj c6
              exact absurd hyτ c8
            · obtain ⟨rfl, rfl⟩ := uni r' t' c1 c2 c3 c4
              rw [eE, her] at c6
              obtain rfl : e = ev := nI_inj c6
              exact ⟨rfl, bJ_ev hA hr hcl her q4 ht hvr v1 hyes hJτ hneP rfl c9⟩
        · have q4 := qltF q4 e 6
          obtain rfl : e = 6 := by omega
          repeat refine kX_one rfl ?_
          refine kX_ret (i := .ireturn) (len := 1) rfl (Or.inr rfl) rfl ⟨_, rfl, mg_event L xs d' σ n b0 R S C kl _ _ _ hb _ hI (fun q => absurd ⟨⟨r, hr, rfl⟩, t, ht, rfl⟩ q) (fun r' t' c1 c2 c3 c4 c5 => ?_) (fun _ _ _ _ _ _ _ _ => ⟨rfl, hbj⟩) (fun r' t' ev W ST' m' A c1 c2 c3 c4 c5 c6 c7 => ?_) (fun r' t' ev W ST' m' A c1 c2 c3 c4 c5 c6 c7 => ?_)⟩
          · obtain ⟨rfl, rfl⟩ := uni r' t' c1 c2 c3 c4
            exact absurd hcl c5
          · obtain ⟨rfl, rfl⟩ := uni r' t' c1 c2 c3 c4
            rw [her] at c6
            have := nI_inj c6
            omega
          · obtain ⟨rfl, rfl⟩ := uni r' t' c1 c2 c3 c4
            rw [her] at c6
            have := nI_inj c6
            omega
      · have hcl : σ 250 r ≠ 0 := f3.mp (qeqF q3)
        repeat refine kX_one rfl ?_
        refine kX_ret (i := .ireturn) (len := 1) rfl (Or.inr rfl) rfl ⟨_, rfl, mg_event L xs d' σ n b0 R S C kl _ _ _ hb _ hI (fun q => absurd ⟨⟨r, hr, rfl⟩, t, ht, rfl⟩ q) (fun _ _ _ _ _ _ _ => ⟨rfl, hbj⟩) (fun r' t' c1 c2 c3 c4 c5 => ?_) (fun r' t' ev W ST' m' A c1 c2 c3 c4 c5 => ?_) (fun r' t' ev W ST' m' A c1 c2 c3 c4 c5 => ?_)⟩
        all_goals
          obtain ⟨rfl, rfl⟩ := uni r' t' c1 c2 c3 c4
          exact absurd c5 hcl
    · exact k22 (fun e => isB_ne.mpr e.2 (qneF q2))
end
section
/-! alike: undo -/
def udS (σ : kS) (V : Nat → Int32) (s k dn : Nat) : kS := va_up (va_up (va_up (va_up σ 232 (upd (σ 232) 55 (nI k))) 264 (upd (σ 264) s (nI dn))) 265 V) 232 (upd (upd (σ 232) 55 (nI k)) 47 0)
set_option maxRecDepth 100000 in
set_option maxHeartbeats 4000000 in
theorem mg_undo (L : Nat) (xs : Nat → Int32) (d : Nat) (σ : kS) (n b R S C : Nat) (kl : List Nat) (Q : Option Value → kS → Prop) (h : mI σ n b R S C kl) (hS : σ 232 52 = 0 → Q (some (.int (-3))) σ) (hO : σ 232 52 = 1 → σ 232 55 = nI 0 → Q (some (.int (-5))) σ)
    (hN : ∀ ds0 s r V, σ 232 52 = 1 → mRn σ n R S (ds0 ++ [s]) → s < S → r < R → σ 255 s = nI r → σ 264 s = nI (ds0.count s + 1) → ds0.count s + 1 ≤ fN (σ 247 r) → (∀ j, (∀ k, k < 6 → j ≠ 6 * s + k) → V j = σ 265 j) → (∀ k, k < 6 → V (6 * s + k) = cit (nbv σ r (ds0.count s) k) (-6) (σ 265 (6 * s + k))) → mI (udS σ V s ds0.length (ds0.count s)) n b R S C kl → Q (some (.int (nI ds0.length))) (udS σ V s ds0.length (ds0.count s))) : kXM kT L xs (d + 1) 208 [.ref 232] σ Q := by
  have h0 := h
  obtain ⟨h1, h2, h3, h4, h5, h6, h7⟩ := h
  have hS4 := h3.1
  have hR4 := h2.1
  unfold kXM
  rcases h6 with h6 | ⟨h6, ds, g1, g2, g3⟩
  · iterate 2 (refine kX_one rfl ?_)
    refine kX_top (h6) ?_
    repeat refine kX_one rfl ?_
    refine kX_ret (i := .ireturn) (len := 1) rfl (Or.inr rfl) rfl (hS h6)
  have hlen := mRn_len h2 hS4 g1
  iterate 2 (refine kX_one rfl ?_)
  refine kX_top (h6) ?_
  iterate 3 (refine kX_one rfl ?_)
  refine kX_top (g1.1) ?_
  rcases snoc_cases ds with rfl | ⟨ds0, s, rfl⟩
  · have hd0 := g1.1
    repeat refine kX_one rfl ?_
    refine kX_ret (i := .ireturn) (len := 1) rfl (Or.inr rfl) rfl (hO h6 hd0)
  have hl1 : (ds0 ++ [s]).length = ds0.length + 1 := by simp
  have hs : s < S := g1.2.2.1 s (by simp)
  have hcs : (ds0 ++ [s]).count s = ds0.count s + 1 := by rw [List.count_append]; simp
  obtain ⟨r, r1, r2, r3, r4, -⟩ := g1.2.2.2 s hs
  rw [hcs] at r3 r4
  obtain ⟨-, v2, v3⟩ := mSn_iff h1 h2 (g1.2.2.2 s hs) r2 r1
  rw [hcs] at v2 v3
  have hfr : fN (σ 255 s) = r := by rw [r2]; exact fN_nI (by omega)
  obtain ⟨m, m1, m2, m3⟩ := g2 ds0.length (by simp)
  have e1 : (ds0 ++ [s])[ds0.length]'(by simp) = s := by simp
  have e2 : (ds0 ++ [s]).take ds0.length = ds0 := by simp
  rw [e1, e2, hfr] at m3
  obtain ⟨p1, p2⟩ := lst_pop g1.2.1
  repeat refine kX_one rfl ?_
  refine kX_ifT (decide_eq_true (by rw [hl1]; exact nI_ne0 (by omega) (by omega))) ?_
  iterate 3 (refine kX_one rfl ?_)
  refine kX_top (g1.1) ?_
  rw [hl1]
  iterate 2 (refine kX_one rfl ?_)
  refine kX_top (nI_pred ds0.length) ?_
  iterate 5 (refine kX_one rfl ?_)
  refine kX_ialdV (v := nI s) rfl rfl (by decide) ds0.length rfl (by omega) p1 ?_
  repeat refine kX_one rfl ?_
  refine kX_ialdV rfl rfl (by decide) (s) (by first | rfl | decide) (by omega) (r3) ?_
  iterate 2 (refine kX_one rfl ?_)
  refine kX_top (nI_pred (ds0.count s)) ?_
  refine kX_iastN rfl rfl (by decide) (s) (by first | rfl | decide) (by omega) ?_
  iterate 2 (refine kX_one rfl ?_)
  have loop := kX_while (T := kT) (L := L) (xs := xs) (d := d + 1) (mi := 208) (pc := 52) (Q := Q)
    (fun q : Nat × (Nat → Int32) => [(2, .int (nI q.1)), (1, .int (nI s)), (0, .ref 232)]) (fun q => va_up (va_up (va_up σ 232 (upd (σ 232) 55 (nI ds0.length))) 264 (upd (σ 264) s (nI (ds0.count s)))) 265 q.2) (fun q => q.1 ≤ 6 ∧ (∀ j, (∀ k, k < 6 → j ≠ 6 * s + k) → q.2 j = σ 265 j) ∧ (∀ k, k < q.1 → q.2 (6 * s + k) = if m / 2 ^ k % 2 = 1 then -6 else σ 265 (6 * s + k)) ∧ ∀ k, q.1 ≤ k → k < 6 → q.2 (6 * s + k) = σ 265 (6 * s + k)) (fun q => 6 - q.1) ?_ (0, σ 265) ⟨Nat.zero_le _, fun _ _ => rfl, fun k hk => absurd hk (Nat.not_lt_zero k), fun _ _ _ => rfl⟩
  · refine kX_to _ _ rfl rfl rfl ?_ loop
    funext c; first
      | ((repeat (refine va_case ?_ ?_; (· (intro h; first | (subst h; rfl) | (unfold va_up; repeat' split; (all_goals first | rfl | omega | (subst_vars; rfl) | (funext j; unfold upd; repeat' split; all_goals first | rfl | omega | (subst_vars; rfl)))))); intro h)); (repeat (refine va_case2 ?_ ?_; (· (intro h; first | exact absurd h (by assumption) | (subst h; rfl) | (subst h; funext j; unfold upd; repeat' split; (all_goals first | rfl | omega | (subst_vars; rfl))))); intro h)); rfl)
      | (unfold va_up; repeat' split
         all_goals first | rfl | omega | (subst_vars; rfl) | (funext j; unfold upd; repeat' split; all_goals first | rfl | omega | (subst_vars; rfl)))
  · rintro ⟨i, V⟩ ⟨i1, i2, i3, i4⟩ ih
    dsimp only at i1 i2 i3 i4 ih ⊢
    repeat refine kX_one rfl ?_
    refine kX_if (fun q => ?_) (fun q => ?_)
    · have q := qge q i 6
      obtain rfl : i = 6 := by omega
      repeat refine kX_one rfl ?_
      have hv' : ∀ k, k < 6 → (bdv σ r (ds0.count s) k → mVz σ n r k (V (6 * s + k))) ∧ (¬ bdv σ r (ds0.count s) k → V (6 * s + k) = -6) := fun k hk => by
        rw [i3 k hk]
        constructor
        · intro hb
          have : ¬ (m / 2 ^ k % 2 = 1) := fun z => ((m3 k hk).mp z).2 hb
          rw [if_neg this]
          exact (v3 k hk).1 (bdv_mono (by omega) hb)
        · intro hb
          by_cases hb1 : bdv σ r (ds0.count s + 1) k
          · rw [if_pos ((m3 k hk).mpr ⟨hb1, hb⟩)]
          · split
            · rfl
            · exact (v3 k hk).2 hb1
      have hRn : mRn (va_up (va_up (va_up (va_up σ 232 (upd (σ 232) 55 (nI ds0.length))) 264 (upd (σ 264) s (nI (ds0.count s)))) 265 V) 232 (upd (upd (σ 232) 55 (nI ds0.length)) 47 0)) n R S ds0 := by
        refine ⟨rfl, p2, fun s' hs' => g1.2.2.1 s' (List.mem_append_left _ hs'), fun s' hs' => ?_⟩
        by_cases e : s' = s
        · subst e
          exact mSn_of (b := b) h1 h2 r1 r2 pk_us (show ds0.count s' ≤ fN (σ 247 r) by omega) hv'
        · have ec : (ds0 ++ [s]).count s' = ds0.count s' := by rw [List.count_append]; simp [Ne.symm e]
          have hsn := g1.2.2.2 s' hs'
          rw [ec] at hsn
          obtain ⟨r', r1', r2', -⟩ := id hsn
          obtain ⟨b1, b2, b3⟩ := mSn_iff h1 h2 hsn r2' r1'
          refine mSn_of (b := b) h1 h2 r1' r2' ?_ b2 (fun k hk => ?_)
          · show upd (σ 264) s (nI (ds0.count s)) s' = _
            rw [pk_un e]
            exact b1
          · have ev : V (6 * s' + k) = σ 265 (6 * s' + k) := i2 _ (fun k' hk' => by omega)
            show (bdv σ r' (ds0.count s') k → mVz σ n r' k (V (6 * s' + k))) ∧ (¬ bdv σ r' (ds0.count s') k → V (6 * s' + k) = -6)
            rw [ev]
            exact b3 k hk
      have hBi : mBi (va_up (va_up (va_up (va_up σ 232 (upd (σ 232) 55 (nI ds0.length))) 264 (upd (σ 264) s (nI (ds0.count s)))) 265 V) 232 (upd (upd (σ 232) 55 (nI ds0.length)) 47 0)) ds0 := by
        intro k hk
        obtain ⟨m', n1, n2, n3⟩ := g2 k (by simp; omega)
        have e3 : (ds0 ++ [s])[k]'(by simp; omega) = ds0[k] := List.getElem_append_left hk
        rw [e3, List.take_append_of_le_length (by omega)] at n3
        exact ⟨m', n1, n2, n3⟩
      refine kX_ret (i := .ireturn) (len := 1) rfl (Or.inr rfl) rfl (hN ds0 s r V h6 g1 hs r1 r2 r3 v2 i2 (fun k hk => ?_) ⟨h1, h2, h3, h4, h5, Or.inr ⟨h6, ds0, hRn, hBi, Or.inl rfl⟩, h7⟩)
      rw [i3 k hk]
      by_cases hz : m / 2 ^ k % 2 = 1
      · rw [if_pos hz, cit_T ((m3 k hk).mp hz)]
      · rw [if_neg hz, cit_F (fun z => hz ((m3 k hk).mpr z))]
    · have q := qgeF q i 6
      repeat refine kX_one rfl ?_
      refine kX_ialdV (v := nI m) rfl rfl (by decide) ds0.length rfl (by omega) m2 ?_
      iterate 4 (refine kX_one rfl ?_)
      refine kX_top (bm_bit m m1 i q) ?_
      have hb2 : m / 2 ^ i % 2 < 2 := Nat.mod_lt _ (by decide)
      have back : ∀ V' : Nat → Int32, (∀ j, (∀ k, k < 6 → j ≠ 6 * s + k) → V' j = σ 265 j) → (∀ k, k < i + 1 → V' (6 * s + k) = if m / 2 ^ k % 2 = 1 then -6 else σ 265 (6 * s + k)) → (∀ k, i + 1 ≤ k → k < 6 → V' (6 * s + k) = σ 265 (6 * s + k)) → kX kT L xs (d + 1) 208 88 [(2, .int (nI i)), (1, .int (nI s)), (0, .ref 232)] [] (va_up (va_up (va_up σ 232 (upd (σ 232) 55 (nI ds0.length))) 264 (upd (σ 264) s (nI (ds0.count s)))) 265 V') Q := by
        intro V' j1 j2 j3
        iterate 2 (refine kX_one rfl ?_)
        have := ih (i + 1, V') ⟨by simp only; omega, j1, j2, j3⟩ (by simp only; omega)
        rw [← nI_1] at this
        exact this
      repeat refine kX_one rfl ?_
      refine kX_if (fun q2 => ?_) (fun q2 => ?_)
      · have q2 : ¬ (m / 2 ^ i % 2 = 1) := fun e => qne q2 (by rw [e]; rfl)
        refine back V i2 (fun k hk => ?_) (fun k hk hk6 => i4 k (by omega) hk6)
        by_cases e : k = i
        · subst e
          rw [if_neg q2]
          exact i4 k (Nat.le_refl _) q
        · exact i3 k (by omega)
      · have q2 : m / 2 ^ i % 2 = 1 := nI_inj (qneF q2)
        iterate 7 (refine kX_one rfl ?_)
        iterate 1 (refine kX_one rfl ?_)
        refine kX_iastN rfl rfl (by decide) (6 * s + i) (ix6 s i) (by omega) ?_
        rw [kup_up]
        refine back (upd V (6 * s + i) _) (fun j hj => ?_) (fun k hk => ?_) (fun k hk hk6 => ?_)
        · rw [pk_un (hj i q)]
          exact i2 j hj
        · by_cases e : k = i
          · subst e
            rw [pk_us, if_pos q2]
            rfl
          · rw [pk_un (by omega)]
            exact i3 k (by omega)
        · rw [pk_un (by omega)]
          exact i4 k (by omega) hk6
set_option maxRecDepth 100000 in
set_option maxHeartbeats 4000000 in
theorem mf_eventOf (L : Nat) (xs : Nat → Int32) (d : Nat) (σ : kS) (n R S s r ev : Nat) (x : Int32) (hRo : cRo σ n R) (hS4 : S ≤ 4) (hr : r < R) (hr2 : σ 15 s = nI r) (hev : σ (23 + 35 * r) 5 = nI ev) (hs : s < S) (hev6 : ev ≤ 6) : kXM kT L xs (d + 1) 69 [.ref 181, .int (nI s), .int x] σ (fun q σ' => ((q = some .null ∧ ∀ k, k < ev → x ≠ nI k) ∨ ∃ k, k < ev ∧ x = nI k ∧ q = some (.ref (28 + 35 * r + 5 * k)) ∧ cE σ n (28 + 35 * r + 5 * k)) ∧ σ = σ') := by
  have hR4 := hRo.1
  obtain ⟨v, e, v1, e1, v2, e2, so1, ev1⟩ := hRo.2.2 r hr
  obtain rfl : ev = e := by
    have := e2.symm.trans hev
    by_cases hq : ev < 2147483648
    · exact (nI_inj this).symm
    · exact absurd hev6 (by omega)
  have hr4 : r < 4 := by omega
  unfold kXM
  have k39 : (∀ k, k < ev → x ≠ nI k) → kX kT L xs (d + 1) 69 39 [(3, .ref (23 + 35 * r)), (0, .ref 181), (1, .int (nI s)), (2, .int x)] [] σ (fun q σ' => ((q = some .null ∧ ∀ k, k < ev → x ≠ nI k) ∨ ∃ k, k < ev ∧ x = nI k ∧ q = some (.ref (28 + 35 * r + 5 * k)) ∧ cE σ n (28 + 35 * r + 5 * k)) ∧ σ = σ') := by
    intro hno
    iterate 1 (refine kX_one rfl ?_)
    refine kX_ret (i := .areturn) (len := 1) rfl (Or.inr rfl) rfl ⟨Or.inl ⟨rfl, hno⟩, rfl⟩
  iterate 7 (refine kX_one rfl ?_)
  refine kX_ialdV rfl rfl (by decide) (s) (by first | rfl | decide) (by omega) (hr2) ?_
  refine kX_aaldN rfl (rfl) (by decide) (by decide) (by decide) (r) (by first | rfl | decide) (hr4) (ro_at hr4) ?_
  iterate 2 (refine kX_one rfl ?_)
  repeat refine kX_one rfl ?_
  refine kX_if (fun q => ?_) (fun q => ?_)
  · have q : x < 0 := of_decide_eq_true q
    exact kX_lv _ rfl rfl rfl (k39 (fun k hk z => by rw [z] at q; exact nI_pos (by omega) q))
  · have q : ¬ x < 0 := of_decide_eq_false q
    obtain ⟨k, hk, rfl⟩ := nI_of q
    iterate 2 (refine kX_one rfl ?_)
    refine kX_getN rfl rfl (kT_ro hr4) rfl ?_
    refine kX_top (e2) ?_
    repeat refine kX_one rfl ?_
    refine kX_if (fun q2 => ?_) (fun q2 => ?_)
    · have q2 := qge q2 k ev
      exact kX_lv _ rfl rfl rfl (k39 (fun k' hk' z => by have := nI_inj z; omega))
    · have q2 := qgeF q2 k ev
      have hk6 : k < 6 := by omega
      iterate 1 (refine kX_one rfl ?_)
      refine kX_getN rfl rfl (kT_ro hr4) rfl ?_
      iterate 1 (refine kX_one rfl ?_)
      refine kX_aaldN rfl (kT_re hr4) (by decide) (by decide) (by decide) (k) (by first | rfl | decide) (hk6) (ev_at hk6) ?_
      iterate 1 (refine kX_one rfl ?_)
      refine kX_ret (i := .areturn) (len := 1) rfl (Or.inr rfl) rfl ⟨Or.inr ⟨k, q2, rfl, rfl, ev1 k q2⟩, rfl⟩
end
section
/-! alike: undo -/
theorem nbv_bls {σ : kS} {n b R r e k : Nat} (h : mTb σ n b) (hR : mRo σ n R) (hr : r < R) (he : e < fN (σ 247 r)) : nbv σ r e k ↔ σ 249 (6 * r + e) = 0 ∧ ∃ u ∈ bls σ r e, fN (σ 241 u) = k := by
  have hn := h.1
  constructor
  · rintro ⟨⟨k1, k2⟩, hb⟩
    rcases k2 with k2 | ⟨e', e1, e2, e3⟩
    · exact absurd ⟨k1, Or.inl k2⟩ hb
    · by_cases q : e' < e
      · exact absurd ⟨k1, Or.inr ⟨e', q, e2, e3⟩⟩ hb
      · obtain rfl : e' = e := by omega
        obtain ⟨t, so, as, t1, t2, -, -, t5, -⟩ := hR.2.2.2.1 r k hr k1
        have hk6 : k < 6 := by
          obtain ⟨⟨v, v1, v2⟩, -⟩ := hR.2.2.1 r hr
          rw [v2, fN_nI (by omega)] at k1
          omega
        have ek : fN (σ 241 t) = k := by rw [t5]; exact fN_nI (by omega)
        rw [t2, fN_nI (by omega)] at e3
        refine ⟨e2, t, fl_mem.mpr ⟨(ddl_mem _ _).mpr (Or.inr e3), ?_⟩, ek⟩
        show nbv σ r e' (fN (σ 241 t))
        rw [ek]
        exact ⟨⟨k1, Or.inr ⟨e', e1, e2, by rw [t2, fN_nI (by omega)]; exact e3⟩⟩, hb⟩
  · rintro ⟨-, u, u1, rfl⟩
    exact (fl_mem.mp u1).2
def tbA (A B : Nat → Int32) (s dn : Nat) (bl : List Nat) : Prop := B (7 * s) = nI dn ∧ (∀ i, i ≠ 7 * s → (∀ k, k < 6 → i ≠ 7 * s + 1 + k) → B i = A i) ∧ ∀ k, k < 6 → B (7 * s + 1 + k) = if k ∈ bl then -1 else A (7 * s + 1 + k)
set_option maxRecDepth 100000 in
set_option maxHeartbeats 4000000 in
theorem mf_takeBack (L : Nat) (xs : Nat → Int32) (d : Nat) (σ : kS) (n R S C s r dn c' ev : Nat) (bl : List Nat) (h : cJ σ n R S C) (hon : σ 181 8 ≠ 0) (hc : σ 181 7 = nI (c' + 1)) (hc4 : c' < 24) (hm : σ 183 c' = nI s) (hs : s < S) (hr : r < R) (hr2 : σ 15 s = nI r) (hat : σ 182 (7 * s) = nI (dn + 1)) (hev : σ (23 + 35 * r) 5 = nI ev) (hev6 : ev ≤ 6) (hdn : dn < ev) (hb1 : σ (28 + 35 * r + 5 * dn) 4 = nI bl.length) (hb6 : bl.length ≤ 6) (hb2 : ∀ j (hj : j < bl.length), (bl[j]'hj) < 6 ∧ σ (29 + 35 * r + 5 * dn) j = nI (bl[j]'hj)) : kXM kT L xs (d + 2) 71 [.ref 181] σ (fun q σ' => q = some (.int (nI c')) ∧ ∃ B, tbA (σ 182) B s dn bl ∧ σ' = va_up (va_up σ 181 (upd (upd (σ 181) 7 (nI c')) 9 (-1))) 182 B ∧ cJ σ' n R S C) := by
  have hS := h.2.2.1
  have hS4 := hS.1
  have hRo := h.2.1
  have hR4 := hRo.1
  have hRu := h.2.2.2.2.2.2.2.2.1
  have hr4 : r < 4 := by omega
  have hk6 : dn < 6 := by omega
  rcases hRu with hRu | ⟨on1, ⟨c, c1, c2, c3⟩, hV, hg⟩
  · exact absurd hRu hon
  obtain rfl : c = c' + 1 := nI_inj (c2.symm.trans hc)
  unfold kXM
  iterate 2 (refine kX_one rfl ?_)
  refine kX_top (c2) ?_
  repeat refine kX_one rfl ?_
  refine kX_ifF (decide_eq_false (nI_nle (by omega) (by omega))) ?_
  iterate 3 (refine kX_one rfl ?_)
  refine kX_top (c2) ?_
  iterate 2 (refine kX_one rfl ?_)
  refine kX_top (y := nI c') (nI_pred c') ?_
  iterate 5 (refine kX_one rfl ?_)
  refine kX_ialdV rfl rfl (by decide) c' (by rfl) (by omega) hm ?_
  iterate 4 (refine kX_one rfl ?_)
  refine kX_top (y := nI (7 * s)) (ix7s s) ?_
  iterate 5 (refine kX_one rfl ?_)
  refine kX_ialdV rfl rfl (by decide) (7 * s) (by rfl) (by omega) hat ?_
  iterate 2 (refine kX_one rfl ?_)
  refine kX_top (y := nI dn) (nI_pred dn) ?_
  refine kX_iastN rfl rfl (by decide) (7 * s) (by first | rfl | decide) (by omega) ?_
  refine kX_st (va_up (va_up σ 181 (upd (σ 181) 7 (nI c'))) 182 (upd (σ 182) (7 * s) (nI dn))) ?_ ?_
  · funext c; first
      | ((repeat (refine va_case ?_ ?_; (· (intro h; first | (subst h; rfl) | (unfold va_up; repeat' split; (all_goals first | rfl | omega | (subst_vars; rfl) | (funext j; unfold upd; repeat' split; all_goals first | rfl | omega | (subst_vars; rfl)))))); intro h)); (repeat (refine va_case2 ?_ ?_; (· (intro h; first | exact absurd h (by assumption) | (subst h; rfl) | (subst h; funext j; unfold upd; repeat' split; (all_goals first | rfl | omega | (subst_vars; rfl))))); intro h)); rfl)
      | (unfold va_up; repeat' split
         all_goals first | rfl | omega | (subst_vars; rfl) | (funext j; unfold upd; repeat' split; all_goals first | rfl | omega | (subst_vars; rfl)))
  have eo : ∀ A e, e < 181 ∨ 186 ≤ e → va_up (va_up σ 181 (upd (σ 181) 7 (nI c'))) 182 A e = σ e := fun A e he => by
    rw [up_ne (by omega), up_ne (by omega)]
  have hRo2 : ∀ A, cRo (va_up (va_up σ 181 (upd (σ 181) 7 (nI c'))) 182 A) n R := fun A => cRo_gr (Nat.le_refl _) (fun e e1 e2 => eo A e (by omega)) hRo
  iterate 5 (refine kX_one rfl ?_)
  refine kX_ialdV rfl rfl (by decide) (7 * s) (by rfl) (by omega) pk_us ?_
  refine kX_cal (mf_eventOf L xs d _ n R S s r ev _ (hRo2 (upd (σ 182) (7 * s) (nI dn))) hS4 hr hr2 ((congrFun (eo (upd (σ 182) (7 * s) (nI dn)) (23 + 35 * r) (by omega)) _).trans hev) hs hev6) rfl (Or.inr rfl) rfl rfl rfl (fun r1 σ1 q1 => ?_)
  obtain ⟨hq, rfl⟩ := q1
  rcases hq with ⟨rfl, hq⟩ | ⟨k, k1, k2, rfl, hE⟩
  · exact absurd rfl (hq dn hdn)
  obtain rfl : dn = k := nI_inj k2
  iterate 4 (refine kX_one rfl ?_)
  refine kX_getN rfl rfl (kT_ev hr4 hk6) rfl ?_
  refine kX_top (y := nI bl.length) ((congrFun (eo (upd (σ 182) (7 * s) (nI dn)) (28 + 35 * r + 5 * dn) (by omega)) _).trans hb1) ?_
  iterate 3 (refine kX_one rfl ?_)
  have loop := kX_while (T := kT) (L := L) (xs := xs) (d := d + 2) (mi := 71) (pc := 71) (Q := fun q σ' => q = some (.int (nI c')) ∧ ∃ B, tbA (σ 182) B s dn bl ∧ σ' = va_up (va_up σ 181 (upd (upd (σ 181) 7 (nI c')) 9 (-1))) 182 B ∧ cJ σ' n R S C) (fun q : Nat × (Nat → Int32) => [(5, .int (nI q.1)), (4, .int (nI bl.length)), (3, .ref (28 + 35 * r + 5 * dn)), (2, .int (nI (7 * s))), (1, .int (nI s)), (0, .ref 181)]) (fun q => va_up (va_up σ 181 (upd (σ 181) 7 (nI c'))) 182 q.2) (fun q => q.1 ≤ bl.length ∧ tbA (σ 182) q.2 s dn (bl.take q.1)) (fun q => bl.length - q.1) ?_ (0, upd (σ 182) (7 * s) (nI dn)) ⟨Nat.zero_le _, pk_us, fun i i1 _ => pk_un i1, fun k hk => by simp only [List.take_zero, List.not_mem_nil, if_false]; exact pk_un (by omega)⟩
  · exact kX_lv _ rfl rfl rfl loop
  · rintro ⟨j, A⟩ ⟨j1, j2⟩ ih
    dsimp only at j1 j2 ih ⊢
    iterate 2 (refine kX_one rfl ?_)
    repeat refine kX_one rfl ?_
    refine kX_if (fun q3 => ?_) (fun q3 => ?_)
    · have q3 := qge q3 j bl.length
      obtain rfl : j = bl.length := by omega
      rw [List.take_length] at j2
      iterate 5 (refine kX_one rfl ?_)
      have e2 : ∀ e, e < 181 ∨ 186 ≤ e → va_up (va_up σ 181 (upd (upd (σ 181) 7 (nI c')) 9 (Int32.ofInt (-1)))) 182 A e = σ e := fun e he => by
        rw [up_ne (by omega), up_ne (by omega)]
      refine kX_st (va_up (va_up σ 181 (upd (upd (σ 181) 7 (nI c')) 9 (Int32.ofInt (-1)))) 182 A) ?_ ?_
      · funext c; first
          | ((repeat (refine va_case ?_ ?_; (· (intro h; first | (subst h; rfl) | (unfold va_up; repeat' split; (all_goals first | rfl | omega | (subst_vars; rfl) | (funext j; unfold upd; repeat' split; all_goals first | rfl | omega | (subst_vars; rfl)))))); intro h)); (repeat (refine va_case2 ?_ ?_; (· (intro h; first | exact absurd h (by assumption) | (subst h; rfl) | (subst h; funext j; unfold upd; repeat' split; (all_goals first | rfl | omega | (subst_vars; rfl))))); intro h)); rfl)
          | (unfold va_up; repeat' split
             all_goals first | rfl | omega | (subst_vars; rfl) | (funext j; unfold upd; repeat' split; all_goals first | rfl | omega | (subst_vars; rfl)))
      refine kX_ret (i := .ireturn) (len := 1) rfl (Or.inr rfl) rfl ⟨rfl, A, j2, rfl, cJ_run h e2 (Or.inr ⟨on1, ⟨c', by omega, rfl, fun i hi => c3 i (by omega)⟩, ?_, Or.inl rfl⟩)⟩
      intro s' k hs' hk
      show A (0 + 7 * s' + 1 + k) = -1 ∨ ∃ z, z < n ∧ A (0 + 7 * s' + 1 + k) = nI z ∧ σ 8 z = 1
      have hv := hV s' k hs' hk
      by_cases e : s' = s
      · subst e
        have := j2.2.2 k hk
        rw [show 0 + 7 * s' + 1 + k = 7 * s' + 1 + k by omega] at hv ⊢
        rw [this]
        by_cases z : k ∈ bl
        · rw [if_pos z]
          exact Or.inl rfl
        · rw [if_neg z]
          exact hv
      · rw [j2.2.1 (0 + 7 * s' + 1 + k) (by omega) (fun k' hk' => by omega)]
        exact hv
    · have q3 := qgeF q3 j bl.length
      obtain ⟨p1, p2⟩ := hb2 j q3
      generalize hp : (bl[j]'q3) = p at p1 p2
      iterate 6 (refine kX_one rfl ?_)
      refine kX_getN rfl rfl (kT_ev hr4 hk6) rfl ?_
      iterate 1 (refine kX_one rfl ?_)
      refine kX_ialdV rfl (kT_e1 hr4 hk6 (Or.inl rfl)) (by decide) (j) (by first | rfl | decide) (by omega) ((congrFun (eo A (28 + 35 * r + 5 * dn + 1) (by omega)) j).trans ((congrFun (congrArg σ (by omega : 28 + 35 * r + 5 * dn + 1 = 29 + 35 * r + 5 * dn)) j).trans p2)) ?_
      iterate 1 (refine kX_one rfl ?_)
      refine kX_top (y := nI (7 * s + 1 + p)) (ix7b s p) ?_
      iterate 1 (refine kX_one rfl ?_)
      refine kX_iastN rfl rfl (by decide) (7 * s + 1 + p) (by first | rfl | decide) (by omega) ?_
      iterate 2 (refine kX_one rfl ?_)
      have := ih (j + 1, upd A (7 * s + 1 + p) (-1)) ⟨q3, (pk_un (by omega)).trans j2.1, fun i i1 i2 => (pk_un (i2 p p1)).trans (j2.2.1 i i1 i2), fun k hk => by
        simp only
        rw [List.take_succ_eq_append_getElem q3, hp]
        by_cases e : k = p
        · subst e
          rw [if_pos (by simp)]
          exact pk_us
        · rw [pk_un (by omega), j2.2.2 k hk]
          by_cases z : k ∈ bl.take j
          · rw [if_pos z, if_pos (List.mem_append_left _ z)]
          · rw [if_neg z, if_neg (fun z2 => by
              rcases List.mem_append.mp z2 with z2 | z2
              · exact z z2
              · exact e (List.mem_singleton.mp z2))]⟩ (by simp only; omega)
      dsimp only at this
      rw [← nI_1] at this
      refine kX_to _ _ rfl rfl rfl ?_ this
      funext c; first
        | ((repeat (refine va_case ?_ ?_; (· (intro h; first | (subst h; rfl) | (unfold va_up; repeat' split; (all_goals first | rfl | omega | (subst_vars; rfl) | (funext j; unfold upd; repeat' split; all_goals first | rfl | omega | (subst_vars; rfl)))))); intro h)); (repeat (refine va_case2 ?_ ?_; (· (intro h; first | exact absurd h (by assumption) | (subst h; rfl) | (subst h; funext j; unfold upd; repeat' split; (all_goals first | rfl | omega | (subst_vars; rfl))))); intro h)); rfl)
        | (unfold va_up; repeat' split
           all_goals first | rfl | omega | (subst_vars; rfl) | (funext j; unfold upd; repeat' split; all_goals first | rfl | omega | (subst_vars; rfl)))
end
section
/-! alike: undo -/
theorem nnI_nI' {a : Nat} (ha : a < 2147483648) : nnI (nI a) = nI a := if_neg (nI_m1 ha)
/-- what is RECEIVED stands for nothing at first -/
theorem aS_op {σ : kS} {n b R S C m s r k : Nat} {kl : List Nat} (h : aJ σ n b R S C kl m) (hs : s < S) (r1 : r < R) (r2 : σ 255 s = nI r) (hk : k < fN (σ 244 r)) (h2 : σ 246 (6 * r + k) = nI 2) : σ 17 (7 * s + 1 + k) = -1 := by
  have hR4 := h.1.2.1.1
  have hn := h.1.1.1
  obtain ⟨⟨v, v6, v2⟩, -⟩ := h.1.2.1.2.2.1 r r1
  have hfv : fN (σ 244 r) = v := by rw [v2]; exact fN_nI (by omega)
  have hk6 : k < 6 := by omega
  have hfr : fN (σ 255 s) = r := by rw [r2]; exact fN_nI (by omega)
  have ha := (h.2.2.2.2.1 s hs).2.2.1 k hk6
  rw [hfr, if_pos hk] at ha
  obtain ⟨r', e1, e2, -, e3⟩ := h.1.2.2.1.2.2 s hs
  obtain rfl : r = r' := nI_inj (r2.symm.trans e2)
  obtain ⟨as, a1, a2⟩ := e3 k hk
  have hcv := h.2.1.2.2.1.2.2.2 s k hs hk6
  rw [show 0 + 7 * s + 1 + k = 7 * s + 1 + k by omega] at hcv
  rcases hcv with q | ⟨z, z1, z2, -⟩
  · exact q
  · rw [z2, nnI_nI' (by omega)] at ha
    rcases a2 with ⟨-, a2⟩ | ⟨a2, -⟩
    · rw [a2] at ha
      exact absurd (show nI z < 0 by rw [ha]; decide) (nI_pos (by omega))
    · have := nI_inj (a1.symm.trans h2) (by omega) (by decide)
      omega
set_option maxRecDepth 100000 in
set_option maxHeartbeats 4000000 in
theorem bo_undo (L : Nat) (xs : Nat → Int32) (d d' m : Nat) (σ : kS) (h : bJ m σ) : kXM kT L xs (d + 3) 131 [.ref 0] σ (fun r τ => ∃ z, r = some (.int z) ∧ kXM kT L xs (d' + 1) 208 [.ref 232] τ (fun r' ω => r' = some (.int z) ∧ bJ m ω)) := by
  have hb := h
  obtain ⟨n, b, R, S, C, kl, h⟩ := h
  have hU := h.2.2.2.2.2.2.2.1
  have hRo := h.1.2.1
  have hR4 := hRo.1
  have hn := h.1.1.1
  unfold kXM
  repeat refine kX_one rfl ?_
  refine kX_if (fun q => ?_) (fun q => ?_)
  · have hon : σ 181 8 ≠ 0 := qne q
    have q : σ 232 52 ≠ 0 := hU.1.mp hon
    obtain ⟨u1, u2, u3, u4, -⟩ := hU.2 q
    rcases h.1.2.2.2.2.2.1 with h6 | ⟨h6, ds, g1, g2, g3⟩
    · exact absurd h6 q
    have hlen := mRn_len hRo h.1.2.2.1.1 g1
    iterate 3 (refine kX_one rfl ?_)
    refine kX_top (y := nI ds.length) (u1.trans g1.1) ?_
    rcases snoc_cases ds with rfl | ⟨ds0, s, rfl⟩
    · repeat refine kX_one rfl ?_
      refine kX_ret (i := .ireturn) (len := 1) rfl (Or.inr rfl) rfl (⟨_, rfl, ?_⟩)
      refine mg_undo L xs d' σ n b R S C kl _ h.1 (fun z => absurd z q) (fun _ _ => ⟨rfl, hb⟩) (fun ds0 s r V _ g _ _ _ _ _ _ _ _ => ?_)
      have gl := mRn_len hRo h.1.2.2.1.1 g
      have := nI_inj (g1.1.symm.trans g.1)
      simp at this
    have hl1 : (ds0 ++ [s]).length = ds0.length + 1 := by simp
    have hs : s < S := g1.2.2.1 s (by simp)
    have hcs : (ds0 ++ [s]).count s = ds0.count s + 1 := by rw [List.count_append]; simp
    obtain ⟨r, r1, r2, r3, r4, -⟩ := g1.2.2.2 s hs
    rw [hcs] at r3 r4
    obtain ⟨p1, p2⟩ := lst_pop g1.2.1
    obtain ⟨-, ev, ev1, ev2⟩ := hRo.2.2.1 r r1
    have hfe : fN (σ 247 r) = ev := by rw [ev2]; exact fN_nI (by omega)
    rw [hfe] at r4
    have hR1 := h.2.2.2.1 r r1
    have hE := hR1.2.2.2.2 (ds0.count s) (by rw [hfe]; omega)
    have hcE : ∀ j, j < (bls σ r (ds0.count s)).length → σ 249 (6 * r + ds0.count s) = 0 → ∃ p, p < 6 ∧ σ (29 + 35 * r + 5 * ds0.count s) j = nI p := fun j hj h0 => by
      obtain ⟨v, e, v1, e1, v2, e2, so1, ev1'⟩ := h.2.1.2.1.2.2 r r1
      have : e = ev := nI_inj (e2.symm.trans (hR1.2.1.trans ev2))
      subst this
      obtain ⟨t, mm, qq, t1, m6, -, t2, m2, -, bd, -⟩ := ev1' (ds0.count s) (by omega)
      have hb6 := (hE.2.2.2 h0).2.1
      have : mm = (bls σ r (ds0.count s)).length := nI_inj (m2.symm.trans (hE.2.2.2 h0).1)
      subst this
      obtain ⟨p, p1, p2⟩ := (bd j hj).1
      exact ⟨p, p1, (congrFun (congrArg σ (by omega : 29 + 35 * r + 5 * ds0.count s = 28 + 35 * r + 5 * ds0.count s + 1)) j).trans p2⟩
    obtain ⟨bl, bl1, bl2, bl3, bl4⟩ : ∃ bl : List Nat, σ (28 + 35 * r + 5 * ds0.count s) 4 = nI bl.length ∧ bl.length ≤ 6 ∧ (∀ j (hj : j < bl.length), (bl[j]'hj) < 6 ∧ σ (29 + 35 * r + 5 * ds0.count s) j = nI (bl[j]'hj)) ∧ ∀ k, k ∈ bl ↔ nbv σ r (ds0.count s) k := by
      by_cases h0 : σ 249 (6 * r + ds0.count s) = 0
      · obtain ⟨c1, c2, c3, -⟩ := hE.2.2.2 h0
        refine ⟨(bls σ r (ds0.count s)).map (fun u => fN (σ 241 u)), by rw [List.length_map]; exact c1, by rw [List.length_map]; exact c2, fun j hj => ?_, fun k => ?_⟩
        · rw [List.length_map] at hj
          obtain ⟨p, p1, p2⟩ := hcE j hj h0
          rw [List.getElem_map]
          have : fN (σ 241 ((bls σ r (ds0.count s))[j]'hj)) = p := by rw [← (c3 j hj).1, p2]; exact fN_nI (by omega)
          rw [this]
          exact ⟨p1, p2⟩
        · rw [nbv_bls h.1.1 hRo r1 (by rw [hfe]; omega), List.mem_map]
          exact ⟨fun z => ⟨h0, z⟩, fun z => z.2⟩
      · refine ⟨[], hE.2.2.1 h0, Nat.zero_le _, fun j hj => absurd hj (Nat.not_lt_zero j), fun k => ?_⟩
        rw [nbv_bls h.1.1 hRo r1 (by rw [hfe]; omega)]
        exact ⟨fun z => absurd z (List.not_mem_nil), fun z => absurd z.1 h0⟩
    repeat refine kX_one rfl ?_
    refine kX_ifT (decide_eq_true (by rw [hl1]; exact nI_ne0 (by omega) (by omega))) ?_
    iterate 2 (refine kX_one rfl ?_)
    refine kX_cal (mf_takeBack L xs d σ n R S C s r (ds0.count s) ds0.length ev bl h.2.1 hon (by rw [u1, g1.1, hl1]) (by omega) ((u2 ds0.length (by rw [g1.1, fN_nI (by omega)]; omega)).trans p1) hs r1 (((h.2.2.2.2.1 s hs).1).trans r2) (((u3 s hs).1).trans r3) (hR1.2.1.trans ev2) ev1 (by omega) bl1 bl2 bl3) rfl (Or.inr rfl) rfl rfl rfl (fun r1 τ q1 => ?_)
    obtain ⟨rfl, B, hB, rfl, hJ⟩ := q1
    refine kX_ret (i := .ireturn) (len := 1) rfl (Or.inr rfl) rfl (⟨_, rfl, ?_⟩)
    have hi : ∀ c, 232 ≤ c → va_up (va_up σ 181 (upd (upd (σ 181) 7 (nI ds0.length)) 9 (-1))) 182 B c = σ c := fun c hc => by rw [up_ne (by omega), up_ne (by omega)]
    refine mg_undo L xs d' _ n b R S C kl _ (mI_hi hi h.1) (fun z => absurd z q) (fun _ z => ?_) (fun ds' s' r' V _ g s1 r1' r2' d1 d2 v1 v2 hI => ?_)
    · have z : σ 232 55 = nI 0 := z
      have := nI_inj (z.symm.trans g1.1)
      omega
    · have g : mRn σ n R S (ds' ++ [s']) := g
      have el : ds' ++ [s'] = ds0 ++ [s] := lst_inj (mRn_len hRo h.1.2.2.1.1 g) hlen (fun s hs => by have := g.2.2.1 s hs; have := h.1.2.2.1.1; omega) (fun s hs => by have := g1.2.2.1 s hs; have := h.1.2.2.1.1; omega) (g.1.symm.trans g1.1) g.2.1 g1.2.1
      obtain ⟨rfl, e2⟩ := List.append_inj' el rfl
      obtain rfl : s' = s := by simpa using e2
      obtain rfl : r' = r := nI_inj (r2'.symm.trans r2)
      refine ⟨rfl, bJ_run h (b' := b) hI (cJ_low (fun c hc => ?_) hJ) (fun c c1 c2 c3 _ => ?_) (fun c c1 c2 c3 _ _ => ?_) (fun j j1 j2 j3 => ?_) ?_⟩
      · show udS (va_up (va_up σ 181 (upd (upd (σ 181) 7 (nI ds'.length)) 9 (-1))) 182 B) V s' ds'.length (ds'.count s') c = _
        unfold udS
        rw [up_ne (by omega), up_ne (by omega), up_ne (by omega), up_ne (by omega)]
      · show udS (va_up (va_up σ 181 (upd (upd (σ 181) 7 (nI ds'.length)) 9 (-1))) 182 B) V s' ds'.length (ds'.count s') c = _
        unfold udS
        rw [up_ne (by omega), up_ne (by omega), up_ne (by omega), up_ne (by omega), up_ne c3, up_ne c2]
      · show udS (va_up (va_up σ 181 (upd (upd (σ 181) 7 (nI ds'.length)) 9 (-1))) 182 B) V s' ds'.length (ds'.count s') c = _
        unfold udS
        rw [up_ne (by omega), up_ne c3, up_ne c2, up_ne (by omega), up_ne (by omega), up_ne (by omega)]
      · show upd (upd (σ 232) 55 (nI ds'.length)) 47 0 j = _
        rw [pk_un j3, pk_un j2]
      · refine ⟨hU.1, fun _ => ⟨rfl, fun i hi => ?_, fun s hs => ⟨?_, fun k hk => ?_⟩, fun s hs k hk ho => ?_, fun hg => ?_⟩⟩
        · have hi : i < fN (nI ds'.length) := hi
          rw [fN_nI (by omega)] at hi
          exact u2 i (by rw [g1.1, hl1, fN_nI (by omega)]; omega)
        · show B (7 * s) = upd (σ 264) s' (nI (ds'.count s')) s
          by_cases e : s = s'
          · subst e
            rw [pk_us]
            exact hB.1
          · rw [pk_un e, hB.2.1 (7 * s) (by omega) (fun k hk => by omega)]
            exact (u3 s hs).1
        · show nnI (B (7 * s + 1 + k)) = V (6 * s + k)
          by_cases e : s = s'
          · subst e
            rw [hB.2.2 k hk, v2 k hk]
            by_cases z : nbv σ r' (ds'.count s) k
            · rw [if_pos ((bl4 k).mpr z)]
              exact (cit_T z).symm
            · rw [if_neg (fun y => z ((bl4 k).mp y))]
              exact ((u3 s hs).2 k hk).trans (cit_F z).symm
          · rw [hB.2.1 (7 * s + 1 + k) (by omega) (fun k' hk' => by omega), v1 (6 * s + k) (fun k' hk' => by omega)]
            exact (u3 s hs).2 k hk
        · have ho : σ 17 (7 * s + 1 + k) ≠ -1 := ho
          show B (7 * s + 1 + k) = σ 17 (7 * s + 1 + k)
          by_cases e : s = s'
          · subst e
            rw [hB.2.2 k hk]
            by_cases z : nbv σ r' (ds'.count s) k
            · refine absurd (aS_op h hs r1' r2' z.1.1 ?_) ho
              exact Classical.byContradiction fun y => z.2 ⟨z.1.1, Or.inl y⟩
            · rw [if_neg (fun y => z ((bl4 k).mp y))]
              exact u4 s hs k hk ho
          · rw [hB.2.1 (7 * s + 1 + k) (by omega) (fun k' hk' => by omega)]
            exact u4 s hs k hk ho
        · exact absurd hg.symm (nI_m1 (by omega))
  · have q : ¬ σ 232 52 ≠ 0 := fun z => hU.1.mpr z (qneF q)
    repeat refine kX_one rfl ?_
    refine kX_ret (i := .ireturn) (len := 1) rfl (Or.inr rfl) rfl (⟨_, rfl, ?_⟩)
    have h6 : σ 232 52 = 0 := Classical.byContradiction q
    exact mg_undo L xs d' σ n b R S C kl _ h.1 (fun _ => ⟨rfl, hb⟩) (fun z => absurd (h6.symm.trans z) (by decide)) (fun ds0 s r V z _ _ _ _ _ _ _ _ _ => absurd (h6.symm.trans z) (by decide))
end
section
/-! alike: what an intruder makes -/
theorem tdp_2 {V AG : Nat → Prop} {K F S : Nat → Int32} (hV : ∀ t, V t → t < 100000 ∧ tOk V AG K F S t) {t k x y : Nat} (hk : K t = nI k) (hx : F t = nI x) (hy : S t = nI y) (h3 : 3 < k) (hk9 : k ≤ 9) (h4 : x < t) (h5 : y < t) (h6 : V x) (h7 : V y) : tdp K F S t = 1 + max (tdp K F S x) (tdp K F S y) := tA_2 hV hk hx hy h3 hk9 h4 h5 h6 h7
theorem tdp_1 {V AG : Nat → Prop} {K F S : Nat → Int32} (hV : ∀ t, V t → t < 100000 ∧ tOk V AG K F S t) {t k x : Nat} (hk : K t = nI k) (hx : F t = nI x) (hy : S t = -1) (h3 : 3 < k) (hk9 : k ≤ 9) (h4 : x < t) (h6 : V x) : tdp K F S t = 1 + max (tdp K F S x) 0 := tA_1 hV hk hx hy h3 hk9 h4 h6
abbrev kGd (σ : kS) (g : Nat) : Prop := tgd (σ 2) (σ 3) (σ 4) g = true
abbrev kDp (σ : kS) (g : Nat) : Nat := tdp (σ 2) (σ 3) (σ 4) g
/-- an intruder at work: u without number, m starts, the row l -/
def iE (σ : kS) (K st n u m : Nat) (l : rwT) : Prop := isK K st ∧ n ≤ 200 ∧ σ 1 11 = nI n ∧ (∀ t, t < n → aT1 σ t) ∧ kTb σ K st n u ∧ kMs σ K m ∧ (0 < m ∧ m < 2147483647) ∧ kRw σ K st n u m l ∧ (∀ t, t < n → kDp σ t ≤ 23) ∧ kQf σ K st n u m
theorem kV_lt {K st n u g : Nat} (hK : isK K st) (hn : n ≤ 200) (hu : u ≤ 576) (h : kV n st u g) : g < 1928 := by
  have := isK_b hK
  unfold kV at h
  omega
theorem iE_lt {σ : kS} {K st n u m g : Nat} {l : rwT} (h : iE σ K st n u m l) (hg : kV n st u g) : g < 1928 := kV_lt h.1 h.2.1 h.2.2.2.2.1.1 hg
theorem iE_nB {σ : kS} {K st n u m : Nat} {l : rwT} (h : iE σ K st n u m l) : nB σ K st n u := ⟨h.1, h.2.1, h.2.2.2.2.1.1, h.2.2.1, h.2.2.2.2.1.2.2.1, h.2.2.2.2.1.2.1⟩
theorem nd_len : ∀ (N : Nat) (l : List Nat), l.Pairwise (fun x y => x ≠ y) → (∀ x ∈ l, x < N) → l.length ≤ N
  | 0, l, _, h => by
    rcases l with _ | ⟨a, l⟩
    · exact Nat.le_refl _
    · exact absurd (h a (by simp)) (Nat.not_lt_zero a)
  | N + 1, l, hd, h => by
    by_cases q : N ∈ l
    · have h1 := nd_len N (l.erase N) (List.Pairwise.sublist List.erase_sublist hd) (fun x hx => by
        have h2 := h x (List.mem_of_mem_erase hx)
        have h3 : x ≠ N := fun e => by
          subst e
          exact (List.Nodup.not_mem_erase (show l.Nodup from hd)) hx
        omega)
      rw [List.length_erase_of_mem q] at h1
      omega
    · have := nd_len N l hd (fun x hx => by
        have h2 := h x hx
        have h3 : x ≠ N := fun e => q (e ▸ hx)
        omega)
      omega
theorem kRw_len {σ : kS} {K st n u m : Nat} {l : rwT} (hst : n ≤ st) (h : kRw σ K st n u m l) : l.length ≤ n + u := by
  have h1 := nd_len (n + u) ((l.map (fun q => q.1)).map (fun t => if t < n then t else t - st + n)) ?_ ?_
  · simpa using h1
  · refine List.pairwise_map.mpr (List.Pairwise.imp_of_mem ?_ h.2.2.2.1)
    intro a b ha hb hab
    have key : ∀ a, a ∈ l.map (fun q => q.1) → kV n st u a := fun a ha => by
      obtain ⟨q, q1, rfl⟩ := List.mem_map.mp ha
      exact (h.2.2.1 q.1 ⟨q, q1, rfl⟩).1
    have := key a ha
    have := key b hb
    unfold kV at *
    split <;> split <;> omega
  · intro x hx
    obtain ⟨t, ht, rfl⟩ := List.mem_map.mp hx
    obtain ⟨q, q1, rfl⟩ := List.mem_map.mp ht
    have := (h.2.2.1 q.1 ⟨q, q1, rfl⟩).1
    unfold kV at this
    split <;> omega
theorem iE_len {σ : kS} {K st n u m : Nat} {l : rwT} (h : iE σ K st n u m l) : l.length ≤ n + u ∧ l.length ≤ 776 := by
  have h1 := kRw_len (by have := isK_b h.1; have := h.2.1; omega) h.2.2.2.2.2.2.2.1
  have h2 := h.2.1
  have h3 := h.2.2.2.2.1.1
  exact ⟨h1, by omega⟩
theorem iE_nR {σ : kS} {K st n u m : Nat} {l : rwT} (h : iE σ K st n u m l) : nR σ K := by
  refine ⟨l.length, (iE_len h).2, h.2.2.2.2.2.2.2.1.1, fun i hi => ⟨(l[i]'hi).1, iE_lt h (h.2.2.2.2.2.2.2.1.2.2.1 _ ⟨l[i]'hi, List.getElem_mem hi, rfl⟩).1, (h.2.2.2.2.2.2.2.1.2.1 i hi).1⟩⟩
def kCl : List Nat := [2, 3, 4, 233, 238]
theorem kMk_c {σ τ : kS} {l : rwT} {g : Nat} (e : eqC σ τ kCl) : kMk τ l g = kMk σ l g := by
  unfold kMk kIn kTv mA
  rw [e 2 (by decide), e 3 (by decide), e 4 (by decide), e 233 (by decide), e 238 (by decide)]
theorem kTv_c {σ τ : kS} (e : eqC σ τ kCl) : kTv τ = kTv σ := by
  unfold kTv
  rw [e 2 (by decide), e 3 (by decide), e 4 (by decide)]
theorem kFr_c {σ τ : kS} {K st : Nat} (hK : isK K st) (e : ∀ c, c < K ∨ K + 9 ≤ c → τ c = σ c) {l : List Nat} (h : l.all (fun c => decide (c < 186 ∨ 222 ≤ c)) = true) : eqC σ τ l := fun c hc => by
  have h1 := isK_b hK
  have h2 := of_decide_eq_true (List.all_eq_true.mp h c hc)
  exact e c (by omega)
/-- the row changes, and nothing else -/
theorem iE_fr {σ τ : kS} {K st n u m : Nat} {l l' : rwT} (h : iE σ K st n u m l) (e : ∀ c, c < K ∨ K + 9 ≤ c → τ c = σ c) (e1 : τ (K + 1) = σ (K + 1)) (e0 : ∀ j, j ≠ 7 → j ≠ 13 → τ K j = σ K j) (hM : kMs τ K m) (hQ : kQf τ K st n u m) (hR : kRw τ K st n u m l') : iE τ K st n u m l' := by
  obtain ⟨h1, h2, h3, h4, h5, h6, h7, h8, h9, -⟩ := h
  have hk := isK_b h1
  have ec : ∀ {l : List Nat}, l.all (fun c => decide (c < 186 ∨ 222 ≤ c)) = true → eqC σ τ l := kFr_c h1 e
  have hc : eqC σ τ [1, 2, 3, 4, 5, 8, 9, 10, 11, 12, 6, 233, 234, 235, 236, 237, 238, 239, 240, 241] := ec (by decide)
  refine ⟨h1, h2, by rw [hc 1 (by decide)]; exact h3, fun t ht => ?_, ?_, hM, h7, hR, fun t ht => ?_, hQ⟩
  · have := h4 t ht
    unfold aT1 at this ⊢
    rw [hc 2 (by decide), hc 3 (by decide), hc 4 (by decide), hc 5 (by decide), hc 8 (by decide), hc 9 (by decide), hc 10 (by decide), hc 11 (by decide), hc 12 (by decide), hc 233 (by decide), hc 234 (by decide), hc 235 (by decide), hc 236 (by decide), hc 237 (by decide), hc 238 (by decide), hc 239 (by decide), hc 240 (by decide), hc 241 (by decide)]
    exact this
  · unfold kTb kAG cpt at h5 ⊢
    rw [e0 3 (by decide) (by decide), e0 1 (by decide) (by decide), e1, hc 2 (by decide), hc 3 (by decide), hc 4 (by decide), hc 5 (by decide), hc 11 (by decide), hc 6 (by decide)]
    exact h5
  · have := h9 t ht
    unfold kDp at this ⊢
    rw [hc 2 (by decide), hc 3 (by decide), hc 4 (by decide)]
    exact this
section KM
variable {σ : kS} {K st n u m : Nat} {l : rwT}
theorem iE_V (h : iE σ K st n u m l) : ∀ t, kV n st u t → t < 100000 ∧ tOk (kV n st u) (kAG σ n) (σ 2) (σ 3) (σ 4) t := h.2.2.2.2.1.2.2.2.1.1
theorem kTv_inj (h : iE σ K st n u m l) {t g : Nat} (ht : kV n st u t) (hg : kV n st u g) (e : kTv σ t = kTv σ g) : t = g := tvl_inj (iE_V h) h.2.2.2.2.1.2.2.2.1.2.2 t g ht hg e
theorem iE_l (h : iE σ K st n u m l) {t : Nat} (ht : rwI l t) : kV n st u t ∧ kGd σ t := h.2.2.2.2.2.2.2.1.2.2.1 t ht
theorem kIn_iff (h : iE σ K st n u m l) {g : Nat} (hg : kV n st u g) : kIn σ l (kTv σ g) ↔ rwI l g :=
  ⟨fun ⟨t, t1, t2⟩ => kTv_inj h (iE_l h t1).1 hg t2 ▸ t1, fun q => ⟨g, q, rfl⟩⟩
/-- the intruder has the PRIVATE of y, or it is not HONEST -/
def kHp (σ : kS) (l : rwT) (y : Nat) : Prop := σ 238 y = 0 ∨ ∃ t, rwI l t ∧ σ 2 t = nI 7 ∧ σ 3 t = nI y
theorem kM_0 (h : iE σ K st n u m l) {g k : Nat} (hg : kV n st u g) (hk : σ 2 g = nI k) (h3 : k ≤ 3) : kMk σ l g ↔ rwI l g ∨ k = 0 := by
  have e : kTv σ g = .arg g := tvl_0 hk h3
  have i := kIn_iff h hg
  rw [e] at i
  unfold kMk
  rw [e]
  show (kIn σ l (.arg g) ∨ mA σ g) ↔ _
  rw [i]
  have hgn : g < n := by
    rcases hg with hg | hg
    · exact hg
    · have := (h.2.2.2.2.1.2.2.2.2.1 g hg.1 hg.2).1
      rw [hk, fN_nI (by omega)] at this
      omega
  refine or_congr Iff.rfl ⟨fun q => ?_, fun q => ⟨by have := h.2.1; omega, ?_⟩⟩
  · exact nI_inj (hk.symm.trans (((h.2.2.2.1 g hgn).1).trans q.2))
  · rw [← (h.2.2.2.1 g hgn).1, hk, q]
theorem kM_4 (h : iE σ K st n u m l) {g k x y : Nat} (hg : kV n st u g) (hk : σ 2 g = nI k) (hx : σ 3 g = nI x) (hy : σ 4 g = nI y) (h4 : x < g) (h5 : y < g) (h6 : kV n st u x) (h7 : kV n st u y) (h3 : k = 4 ∨ k = 5) : kMk σ l g ↔ rwI l g ∨ (kMk σ l x ∧ kMk σ l y) := by
  have e : kTv σ g = _ := tvl_2 (iE_V h) hk hx hy (by omega) (by omega) h4 h5 h6 h7
  have i := kIn_iff h hg
  rw [e] at i
  unfold kMk
  rw [e, ← i]
  rcases h3 with rfl | rfl
  · exact Iff.rfl
  · exact Iff.rfl
theorem kM_6 (h : iE σ K st n u m l) {g x y : Nat} (hg : kV n st u g) (hk : σ 2 g = nI 6) (hx : σ 3 g = nI x) (hy : σ 4 g = nI y) (h4 : x < g) (h5 : y < g) (h6 : kV n st u x) (h7 : kV n st u y) : kMk σ l g ↔ rwI l g ∨ kMk σ l x := by
  have e : kTv σ g = _ := tvl_2 (iE_V h) hk hx hy (by omega) (by omega) h4 h5 h6 h7
  have i := kIn_iff h hg
  rw [e] at i
  unfold kMk
  rw [e, ← i]
  exact Iff.rfl
theorem kM_9 (h : iE σ K st n u m l) {g x : Nat} (hg : kV n st u g) (hk : σ 2 g = nI 9) (hx : σ 3 g = nI x) (hy : σ 4 g = -1) (h4 : x < g) (h6 : kV n st u x) : kMk σ l g ↔ rwI l g ∨ kMk σ l x := by
  have e : kTv σ g = _ := tvl_1 (iE_V h) hk hx hy (by omega) (by omega) h4 h6
  have i := kIn_iff h hg
  rw [e] at i
  unfold kMk
  rw [e, ← i]
  exact Iff.rfl
theorem vnh_arg {H : Nat → Int32} {y : Nat} : vnh H (.arg y) ↔ H y = 0 := ⟨fun ⟨x, e, hx⟩ => by cases e; exact hx, fun q => ⟨y, rfl, q⟩⟩
theorem kM_7 (h : iE σ K st n u m l) {g x : Nat} (hg : kV n st u g) (hk : σ 2 g = nI 7) (hx : σ 3 g = nI x) (hy : σ 4 g = -1) (h4 : x < g) (h6 : kV n st u x) (h0 : σ 2 x = nI 0) : kMk σ l g ↔ rwI l g ∨ kHp σ l x := by
  have e : kTv σ g = _ := tvl_1 (iE_V h) hk hx hy (by omega) (by omega) h4 h6
  have e0 : tvl (σ 2) (σ 3) (σ 4) x = .arg x := tvl_0 h0 (by decide)
  rw [e0] at e
  have i := kIn_iff h hg
  have hi := i
  rw [e] at i
  unfold kMk
  rw [e]
  show (kIn σ l (.length (.arg x)) ∨ vnh (σ 238) (.arg x)) ↔ _
  rw [vnh_arg, ← hi, e]
  refine ⟨fun q => q.elim Or.inl (fun q => Or.inr (Or.inl q)), fun q => ?_⟩
  rcases q with q | q | ⟨t, t1, t2, t3⟩
  · exact Or.inl q
  · exact Or.inr q
  · refine Or.inl (i.mpr ?_)
    have hx9 := (iE_V h x h6).1
    have : t = g := by
      refine h.2.2.2.2.1.2.2.2.1.2.2 t g (iE_l h t1).1 hg (by rw [t2]; decide) (t2.trans hk.symm) (t3.trans hx.symm) ?_
      rw [hy]
      rcases (iE_V h t (iE_l h t1).1).2 with ⟨k, z3, zk, -, z5⟩ | ⟨k, a, b, z3, zk, -⟩ | ⟨k, a, z3, zk, za, z5, -⟩
      · exact z5
      · have := nI_inj (zk.symm.trans t2)
        omega
      · exact z5
    exact this ▸ t1
theorem kM_8 (h : iE σ K st n u m l) {g x y : Nat} (hg : kV n st u g) (hk : σ 2 g = nI 8) (hx : σ 3 g = nI x) (hy : σ 4 g = nI y) (h4 : x < g) (h5 : y < g) (h6 : kV n st u x) (h7 : kV n st u y) (h0 : σ 2 y = nI 0) : kMk σ l g ↔ rwI l g ∨ (kMk σ l x ∧ kHp σ l y) := by
  have e : kTv σ g = _ := tvl_2 (iE_V h) hk hx hy (by omega) (by omega) h4 h5 h6 h7
  have e0 : tvl (σ 2) (σ 3) (σ 4) y = .arg y := tvl_0 h0 (by decide)
  rw [e0] at e
  have i := kIn_iff h hg
  rw [e] at i
  unfold kMk
  rw [e, ← i]
  show (_ ∨ (kMk σ l x ∧ (vnh (σ 238) (.arg y) ∨ kIn σ l (.length (.arg y))))) ↔ _
  rw [vnh_arg]
  refine or_congr Iff.rfl (and_congr Iff.rfl (or_congr Iff.rfl ⟨fun ⟨t, t1, t2⟩ => ?_, fun ⟨t, t1, t2, t3⟩ => ?_⟩))
  · obtain ⟨a, b, -⟩ := tvl_priv (iE_V h) (iE_l h t1).1 t2
    exact ⟨t, t1, a, b⟩
  · refine ⟨t, t1, ?_⟩
    have hy9 := (iE_V h y h7).1
    rcases (iE_V h t (iE_l h t1).1).2 with ⟨k, z3, zk, z4, z5⟩ | ⟨k, a, b, z3, zk, -⟩ | ⟨k, a, z3, zk, za, z5, z6, z7⟩
    · have := nI_inj (zk.symm.trans t2)
      omega
    · have := nI_inj (zk.symm.trans t2)
      omega
    · have ha9 := (iE_V h a z7).1
      obtain rfl : a = y := nI_inj (za.symm.trans t3)
      obtain rfl : k = 7 := nI_inj (zk.symm.trans t2)
      have e2 : kTv σ t = _ := tvl_1 (iE_V h) zk za z5 (by omega) (by omega) z6 z7
      rw [e2, e0]
      rfl
theorem kM_in (h : iE σ K st n u m l) {g : Nat} (hg : kV n st u g) (hi : rwI l g) (hd : kGd σ g) : kMk σ l g := by
  have hz : ∀ y, y < g → kV n st u y → kAG σ n y → kGd σ y → σ 2 y = nI 0 := fun y _ _ ha hgd => by
    rcases ha.2 with e | ⟨e, -⟩
    · exact e
    · unfold kGd at hgd
      rw [tgd_0 e (by decide)] at hgd
      exact absurd rfl (of_decide_eq_true hgd)
  unfold kGd at hd
  rcases (iE_V h g hg).2 with ⟨k, h3, hk, -, -⟩ | ⟨k, x, y, h3, hk, hx, hy, h4, h5, h6, h7⟩ | ⟨k, x, h3, hk, hx, hy, h4, h6⟩
  · exact (kM_0 h hg hk h3).mpr (Or.inl hi)
  · rw [tgd_2 (iE_V h) hk hx hy (by omega) (by omega) h4 h5 h6 h7, Bool.and_eq_true] at hd
    rcases h3 with rfl | rfl | ⟨rfl | rfl, ha⟩
    · exact (kM_4 h hg hk hx hy h4 h5 h6 h7 (Or.inl rfl)).mpr (Or.inl hi)
    · exact (kM_4 h hg hk hx hy h4 h5 h6 h7 (Or.inr rfl)).mpr (Or.inl hi)
    · exact (kM_6 h hg hk hx hy h4 h5 h6 h7).mpr (Or.inl hi)
    · exact (kM_8 h hg hk hx hy h4 h5 h6 h7 (hz y h5 h7 ha hd.2)).mpr (Or.inl hi)
  · rw [tgd_1 (iE_V h) hk hx hy (by omega) (by omega) h4 h6] at hd
    rcases h3 with rfl | ⟨rfl, ha⟩
    · exact (kM_9 h hg hk hx hy h4 h6).mpr (Or.inl hi)
    · exact (kM_7 h hg hk hx hy h4 h6 (hz x h4 h6 ha hd)).mpr (Or.inl hi)
theorem nI_nm {m : Nat} (h0 : 0 < m) (h1 : m < 2147483647) : nI m ≠ -(nI m) := by
  intro e
  have h2 : ¬ nI m < 0 := nI_pos (by omega)
  rw [e] at h2
  have : (-(nI m)).toInt = -(m : Int) := by
    rw [Int32.toInt_neg, nI_toInt (by omega)]
    rw [Int.bmod_def]
    omega
  rw [Int32.lt_iff_toInt_lt, this] at h2
  have : (0 : Int32).toInt = 0 := rfl
  omega
/-- a mark of what can be made -/
theorem iE_mk (h : iE σ K st n u m l) {g : Nat} {v : Int32} (hg : kV n st u g) (hd : kGd σ g) (hv : (v = nI m ∧ kMk σ l g) ∨ (v = -(nI m) ∧ σ K 13 ≠ 0 ∧ ¬ kMk σ l g) ∨ v = σ (K + 6) g) : iE (va_up σ (K + 6) (upd (σ (K + 6)) g v)) K st n u m l := by
  have hK := isK_b h.1
  have hm := h.2.2.2.2.2.2.1
  have e : ∀ c, c < K ∨ K + 9 ≤ c → va_up σ (K + 6) (upd (σ (K + 6)) g v) c = σ c := fun c hc => up_ne (by omega)
  refine iE_fr h e (up_ne (by omega)) (fun j _ _ => by rw [up_ne (by omega)]) ?_ (fun z z1 z2 => by have q := h.2.2.2.2.2.2.2.2.2 z z1 z2; have zg : z ≠ g := fun e => z2 (e ▸ hg); rw [up_ne (by omega), up_eq, pk_un zg]; exact q) ?_
  · obtain ⟨w1, w2, w3, w4⟩ := h.2.2.2.2.2.1
    unfold kMs
    rw [up_ne (show K ≠ K + 6 by omega), up_ne (show K + 5 ≠ K + 6 by omega), up_ne (show K + 7 ≠ K + 6 by omega), up_eq]
    refine ⟨w1, w2, fun z hz => ?_, w4⟩
    by_cases q : z = g
    · subst q
      rw [pk_us]
      rcases hv with hv | hv | hv
      · exact ⟨m, Nat.le_refl _, Or.inl hv.1⟩
      · exact ⟨m, Nat.le_refl _, Or.inr hv.1⟩
      · rw [hv]
        exact w3 z hz
    · rw [pk_un q]
      exact w3 z hz
  obtain ⟨r1, r2, r3, r4, r5, r6, r7, r8⟩ := h.2.2.2.2.2.2.2.1
  have hmk : ∀ z, kMk (va_up σ (K + 6) (upd (σ (K + 6)) g v)) l z = kMk σ l z := fun z => kMk_c (kFr_c h.1 e (by decide))
  have hc : eqC σ (va_up σ (K + 6) (upd (σ (K + 6)) g v)) kCl := kFr_c h.1 e (by decide)
  have e6 : va_up σ (K + 6) (upd (σ (K + 6)) g v) (K + 6) = upd (σ (K + 6)) g v := up_eq
  unfold kRw
  simp only [hmk]
  rw [up_ne (show K ≠ K + 6 by omega), up_ne (show K + 2 ≠ K + 6 by omega), up_ne (show K + 3 ≠ K + 6 by omega), up_ne (show K + 4 ≠ K + 6 by omega), up_ne (show K + 5 ≠ K + 6 by omega), up_ne (show K + 7 ≠ K + 6 by omega), hc 2 (by decide), hc 3 (by decide), hc 4 (by decide), e6]
  refine ⟨r1, r2, r3, r4, r5, r6, fun t ht => ?_, fun z hz hzd => ?_⟩
  · by_cases q : t = g
    · subst q
      rw [pk_us]
      rcases hv with hv | hv | hv
      · exact hv.1
      · exact absurd (kM_in h hg ht hd) hv.2.2
      · exact hv.trans (r7 t ht)
    · rw [pk_un q]
      exact r7 t ht
  · by_cases q : z = g
    · subst q
      rw [pk_us]
      rcases hv with hv | hv | hv
      · rw [hv.1]
        exact ⟨fun _ => hv.2, fun z => absurd z (nI_nm hm.1 hm.2)⟩
      · rw [hv.1]
        exact ⟨fun z => absurd z.symm (nI_nm hm.1 hm.2), fun _ => hv.2⟩
      · rw [hv]
        exact r8 z hz hzd
    · rw [pk_un q]
      exact r8 z hz hzd
end KM
end
