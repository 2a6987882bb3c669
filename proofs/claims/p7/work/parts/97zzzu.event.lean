/-! alike: newEvent -/
/-- what newEvent leaves -/
def neP (σ ω : kS) (r e t v : Nat) (b : Int32) : Prop := (∀ c, c ≠ 20 → c ≠ 21 → c ≠ 22 → c ≠ 26 + 35 * r → c ≠ 23 + 35 * r → (c < 28 + 35 * r + 5 * e ∨ 28 + 35 * r + 5 * e + 5 ≤ c) → ω c = σ c) ∧ ω (23 + 35 * r) = upd (σ (23 + 35 * r)) 5 (nI (e + 1)) ∧ ω (28 + 35 * r + 5 * e) 1 = nI t ∧ ω (28 + 35 * r + 5 * e) 0 = b ∧ (b ≠ 0 → ω (28 + 35 * r + 5 * e) 4 = 0 ∧ ω (26 + 35 * r) = σ (26 + 35 * r)) ∧ (b = 0 → bnG σ ω r v (28 + 35 * r + 5 * e) (bdL σ r v (tvs (σ 233) (σ 234) (σ 235) t)) ∧ aP ω (28 + 35 * r + 5 * e) t (bdL σ r v (tvs (σ 233) (σ 234) (σ 235) t)))
theorem wfr_eq {σ τ : kS} {r v : Nat} {x : Int32} (e1 : τ (24 + 35 * r) = σ (24 + 35 * r)) (e2 : τ (26 + 35 * r) = σ (26 + 35 * r)) : wfr τ r v x ↔ wfr σ r v x := by
  unfold wfr
  rw [e1, e2]
theorem bdL_eq {σ τ : kS} {r v : Nat} {l : List Nat} (e1 : τ (24 + 35 * r) = σ (24 + 35 * r)) (e2 : τ (26 + 35 * r) = σ (26 + 35 * r)) (e3 : τ 12 = σ 12) : bdL τ r v l = bdL σ r v l := by
  unfold bdL
  rw [e3]
  exact fl_congr (fun u _ => wfr_eq e1 e2)
theorem mTb_hi {σ τ : kS} {n b : Nat} (e : ∀ c, 232 ≤ c → τ c = σ c) (h : mTb σ n b) : mTb τ n b := by
  unfold mTb mAG mpt at h ⊢
  rw [e 232 (by decide), e 233 (by decide), e 234 (by decide), e 235 (by decide), e 236 (by decide), e 240 (by decide), e 237 (by decide), e 242 (by decide), e 243 (by decide)]
  exact h
theorem bl_inj {σ : kS} {n r v t : Nat} {bl : List Nat} (hbl : bdL σ r v (tvs (σ 233) (σ 234) (σ 235) t) = bl) (hvm : ∀ u ∈ tvs (σ 233) (σ 234) (σ 235) t, u < n ∧ σ 233 u = nI 3) (hplo : ∀ w, w < n → σ 233 w = nI 3 → σ 12 w = σ 241 w) (hinj : ∀ u ∈ tvs (σ 233) (σ 234) (σ 235) t, ∀ w ∈ tvs (σ 233) (σ 234) (σ 235) t, σ 12 u = σ 12 w → u = w) {i j : Nat} (hi : i < bl.length) (hj : j < bl.length) (q : σ 241 (bl[i]'hi) = σ 241 (bl[j]'hj)) : i = j := by
  have hbm : ∀ w ∈ bl, w ∈ tvs (σ 233) (σ 234) (σ 235) t := fun w hw => by
    rw [← hbl] at hw
    exact (bdL_mem.mp hw).1
  have hi1 := hbm _ (List.getElem_mem hi)
  have hj1 := hbm _ (List.getElem_mem hj)
  have e := hinj _ hi1 _ hj1 (by rw [hplo _ (hvm _ hi1).1 (hvm _ hi1).2, hplo _ (hvm _ hj1).1 (hvm _ hj1).2]; exact q)
  have hn : bl.Pairwise (fun x y => x ≠ y) := by
    rw [← hbl]
    exact bdL_nd
  rcases Nat.lt_trichotomy i j with h | h | h
  · exact absurd e (List.pairwise_iff_getElem.mp hn i j hi hj h)
  · exact h
  · exact absurd e.symm (List.pairwise_iff_getElem.mp hn j i hj hi h)
set_option maxRecDepth 100000 in
set_option maxHeartbeats 4000000 in
theorem mf_newEvent (L : Nat) (xs : Nat → Int32) (d : Nat) (σ : kS) (n b0 R S C r e t v : Nat) (b : Int32) (h : cJ σ n R S C) (hI : mTb σ n b0) (hA : aT σ n) (hv6 : v ≤ 6) (hvc : σ (23 + 35 * r) 3 = nI v) (hpl : ∀ u ∈ tvs (σ 233) (σ 234) (σ 235) t, ∃ k, k < v ∧ σ 12 u = nI k) (hinj : ∀ u ∈ tvs (σ 233) (σ 234) (σ 235) t, ∀ w ∈ tvs (σ 233) (σ 234) (σ 235) t, σ 12 u = σ 12 w → u = w) (hr : r < R) (he : e < 6) (hec : σ (23 + 35 * r) 5 = nI e) (ht : t < n) (hb : b = 0 ∨ b = 1) : kXM kT L xs (d + 5) 9 [.ref 13, .ref (23 + 35 * r), .int b, .int (nI t)] σ (fun q σ' => q = some (.int (nI (e + 1))) ∧ cJ σ' n R S C ∧ neP σ σ' r e t v b) := by
  have hT := h.1
  have hR4 := h.2.1.1
  have hr4 : r < 4 := by omega
  obtain ⟨v', e', v1, e1, v2, e2, so1, ev1⟩ := h.2.1.2.2 r hr
  obtain rfl : e = e' := nI_inj (hec.symm.trans e2)
  obtain rfl : v = v' := nI_inj (hvc.symm.trans v2)
  have h24s : tsz (σ 233) (σ 234) (σ 235) t ≤ 24 := hI.2.2.2.2.2.2.2.2.2 t ht
  have hplo : ∀ w, w < n → σ 233 w = nI 3 → σ 12 w = σ 241 w := fun w hw hk => ((hA.1 w hw).2.2.2.2.2.2 hk).2.2
  have hvm : ∀ u ∈ tvs (σ 233) (σ 234) (σ 235) t, u < n ∧ σ 233 u = nI 3 := fun u hu => ⟨(tvs_mem (mTb_num hI) t ht u hu).1, (tvs_mem (mTb_num hI) t ht u hu).2.1⟩
  have hEv := kT_ev hr4 he
  unfold kXM
  iterate 1 (refine kX_one rfl ?_)
  refine kX_getN rfl rfl (kT_ro hr4) rfl ?_
  refine kX_top (hec) ?_
  iterate 1 (refine kX_one rfl ?_)
  repeat refine kX_one rfl ?_
  refine kX_if (fun q => ?_) (fun q => ?_)
  · iterate 1 (refine kX_one rfl ?_)
    refine kX_getN rfl rfl (kT_ro hr4) rfl ?_
    iterate 1 (refine kX_one rfl ?_)
    refine kX_getN rfl rfl (kT_ro hr4) rfl ?_
    refine kX_top (hec) ?_
    refine kX_aaldN rfl (kT_re hr4) (by decide) (by decide) (by decide) (e) (by first | rfl | decide) (he) (ev_at he) ?_
    iterate 3 (refine kX_one rfl ?_)
    refine kX_putN rfl rfl hEv rfl (by rcases hb with rfl | rfl <;> rfl) rfl ?_
    iterate 2 (refine kX_one rfl ?_)
    refine kX_putN rfl rfl (hEv) rfl (rfl) rfl ?_
    iterate 2 (refine kX_one rfl ?_)
    refine kX_putN rfl rfl (hEv) rfl (rfl) rfl ?_
    iterate 2 (refine kX_one rfl ?_)
    refine kX_putN rfl rfl (hEv) rfl (rfl) rfl ?_
    refine kX_st (va_up σ (28 + 35 * r + 5 * e) (upd (upd (upd (upd (σ (28 + 35 * r + 5 * e)) 0 b) 1 (nI t)) 4 0) 7 0)) ?_ ?_
    · rw [kup_up, kup_up, kup_up]
      simp only [up_eq]
      rfl
    have hρa : va_up σ (28 + 35 * r + 5 * e) (upd (upd (upd (upd (σ (28 + 35 * r + 5 * e)) 0 b) 1 (nI t)) 4 0) 7 0) (28 + 35 * r + 5 * e) = upd (upd (upd (upd (σ (28 + 35 * r + 5 * e)) 0 b) 1 (nI t)) 4 0) 7 0 := up_eq
    have hρo : ∀ c, c ≠ 28 + 35 * r + 5 * e → va_up σ (28 + 35 * r + 5 * e) (upd (upd (upd (upd (σ (28 + 35 * r + 5 * e)) 0 b) 1 (nI t)) 4 0) 7 0) c = σ c := fun c hc => up_ne hc
    generalize va_up σ (28 + 35 * r + 5 * e) (upd (upd (upd (upd (σ (28 + 35 * r + 5 * e)) 0 b) 1 (nI t)) 4 0) 7 0) = ρ at *
    have hte : ρ (28 + 35 * r + 5 * e) 1 = nI t := by rw [hρa]; rfl
    have hbc : ρ (28 + 35 * r + 5 * e) 4 = 0 := by rw [hρa]; rfl
    have hpc : ρ (28 + 35 * r + 5 * e) 7 = 0 := by rw [hρa]; rfl
    have hTρ : cT ρ n := by
      refine cT_eq (by rw [hρo 1 (by omega)]) (hρo _ (by omega)) (fun u _ => ?_) hT
      rw [hρo 2 (by omega), hρo 3 (by omega), hρo 4 (by omega), hρo 8 (by omega), hρo 12 (by omega), hρo 6 (by omega)]
      exact ⟨rfl, rfl, rfl, rfl, rfl, rfl⟩
    have k71 : ∀ τ, (τ (28 + 35 * r + 5 * e) 1 = nI t ∧ τ (28 + 35 * r + 5 * e) 0 = b ∧ (b ≠ 0 → τ (28 + 35 * r + 5 * e) 4 = 0 ∧ τ (26 + 35 * r) = σ (26 + 35 * r)) ∧ (b = 0 → bnG σ τ r v (28 + 35 * r + 5 * e) (bdL σ r v (tvs (σ 233) (σ 234) (σ 235) t)) ∧ aP τ (28 + 35 * r + 5 * e) t (bdL σ r v (tvs (σ 233) (σ 234) (σ 235) t)))) → (∀ c, c ≠ 20 → c ≠ 21 → c ≠ 22 → c ≠ 26 + 35 * r → (c < 28 + 35 * r + 5 * e ∨ 28 + 35 * r + 5 * e + 5 ≤ c) → τ c = σ c) → cE τ n (28 + 35 * r + 5 * e) → kX kT L xs (d + 5) 9 71 [(4, .ref (28 + 35 * r + 5 * e)), (0, .ref 13), (1, .ref (23 + 35 * r)), (2, .int b), (3, .int (nI t))] [] τ (fun q σ' => q = some (.int (nI (e + 1))) ∧ cJ σ' n R S C ∧ neP σ σ' r e t v b) := by
      intro τ hne hτ hE
      have e23 : τ (23 + 35 * r) = σ (23 + 35 * r) := hτ _ (by omega) (by omega) (by omega) (by omega) (by omega)
      iterate 2 (refine kX_one rfl ?_)
      refine kX_getN rfl rfl (kT_ro hr4) rfl ?_
      refine kX_top (y := nI e) (by rw [e23]; exact hec) ?_
      iterate 2 (refine kX_one rfl ?_)
      refine kX_putN rfl rfl (kT_ro hr4) rfl (rfl) rfl ?_
      iterate 1 (refine kX_one rfl ?_)
      refine kX_getN rfl rfl (kT_ro hr4) rfl ?_
      have hω : ∀ c, c ≠ 23 + 35 * r → va_up τ (23 + 35 * r) (upd (τ (23 + 35 * r)) 5 (nI e + Int32.ofInt 1)) c = τ c := fun c hc => up_ne hc
      have hωr : va_up τ (23 + 35 * r) (upd (τ (23 + 35 * r)) 5 (nI e + Int32.ofInt 1)) (23 + 35 * r) = upd (σ (23 + 35 * r)) 5 (nI (e + 1)) := by
        rw [up_eq, e23, ← nI_1]
        rfl
      refine kX_top (y := nI (e + 1)) (by rw [up_eq]; exact pk_us.trans (nI_1 e)) ?_
      refine kX_ret (i := .ireturn) (len := 1) rfl (Or.inr rfl) rfl ⟨rfl, ?_⟩
      show cJ (va_up τ (23 + 35 * r) (upd (τ (23 + 35 * r)) 5 (nI e + Int32.ofInt 1))) n R S C ∧ neP σ (va_up τ (23 + 35 * r) (upd (τ (23 + 35 * r)) 5 (nI e + Int32.ofInt 1))) r e t v b
      generalize va_up τ (23 + 35 * r) (upd (τ (23 + 35 * r)) 5 (nI e + Int32.ofInt 1)) = ω at *
      refine ⟨cJ_lo h (fun c hc => ?_) (fun j _ => ?_) ⟨hR4, ?_, fun r' hr' => ?_⟩ (Nat.le_refl _), fun c x1 x2 x3 x4 x5 x6 => ?_, hωr, by rw [hω _ (by omega)]; exact hne.1, by rw [hω _ (by omega)]; exact hne.2.1, fun z => ⟨by rw [hω _ (by omega)]; exact (hne.2.2.1 z).1, by rw [hω _ (by omega)]; exact (hne.2.2.1 z).2⟩, fun z => ?_⟩
      · rw [hω c (by omega)]
        exact hτ c (by omega) (by omega) (by omega) (by omega) (by omega)
      · rw [hω 13 (by omega), hτ 13 (by decide) (by decide) (by decide) (by omega) (by omega)]
      · rw [hω 13 (by omega), hτ 13 (by decide) (by decide) (by decide) (by omega) (by omega)]
        exact h.2.1.2.1
      · by_cases q : r' = r
        · subst q
          refine ⟨v, e + 1, v1, by omega, ?_, ?_, ?_, fun k hk => ?_⟩
          · rw [hωr]
            exact v2
          · rw [hωr]
            exact pk_us
          · rw [hω (25 + 35 * r') (by omega), hω (24 + 35 * r') (by omega), hτ (25 + 35 * r') (by omega) (by omega) (by omega) (by omega) (by omega), hτ (24 + 35 * r') (by omega) (by omega) (by omega) (by omega) (by omega)]
            exact so1
          · by_cases q : k = e
            · subst q
              exact cE_up (Nat.le_refl _) (fun i hi => hω _ (by omega)) hE
            · exact cE_up (σ := σ) (Nat.le_refl _) (fun i hi => by
                rw [hω _ (by omega)]
                exact hτ _ (by omega) (by omega) (by omega) (by omega) (by omega)) (ev1 k (by omega))
        · exact cR1_eq (fun c c1 c2 => by
            rw [hω c (by omega)]
            exact hτ c (by omega) (by omega) (by omega) (by omega) (by omega)) (h.2.1.2.2 r' hr')
      · rw [hω c x5]
        exact hτ c x1 x2 x3 x4 x6
      · obtain ⟨g1, g2⟩ := hne.2.2.2 z
        unfold bnG at g1
        unfold aP opn at g2
        unfold bnG aP opn
        rw [hω (28 + 35 * r + 5 * e) (by omega), hω (28 + 35 * r + 5 * e + 1) (by omega), hω (28 + 35 * r + 5 * e + 2) (by omega), hω (26 + 35 * r) (by omega), hω (28 + 35 * r + 5 * e + 3) (by omega), hω (28 + 35 * r + 5 * e + 4) (by omega), hω 233 (by omega), hω 234 (by omega), hω 235 (by omega)]
        exact ⟨g1, g2⟩
    iterate 1 (refine kX_one rfl ?_)
    repeat refine kX_one rfl ?_
    refine kX_if (fun q2 => ?_) (fun q2 => ?_)
    · have q2 : b ≠ 0 := qne q2
      refine kX_lv _ rfl rfl rfl (k71 ρ ⟨hte, by rw [hρa]; rfl, fun _ => ⟨hbc, hρo _ (by omega)⟩, fun z => absurd z q2⟩ (fun c _ _ _ _ hc => hρo c (by omega)) ⟨t, 0, 0, ht, by omega, by omega, hte, hbc, hpc, fun j hj => absurd hj (Nat.not_lt_zero j), fun j hj => absurd hj (Nat.not_lt_zero j)⟩)
    · have q2 : b = 0 := qneF q2
      have er : ∀ c, 232 ≤ c → ρ c = σ c := fun c hc => hρo c (by omega)
      have eT : ∀ c, c < 13 → ρ c = σ c := fun c hc => hρo c (by omega)
      have hIρ : mTb ρ n b0 := mTb_hi er hI
      have hAρ : aT ρ n := aT_c (fun c _ c2 => eT c c2) (eqC_of (P := fun c => 232 ≤ c) er _ (by decide)) hA
      have etv : tvs (ρ 233) (ρ 234) (ρ 235) t = tvs (σ 233) (σ 234) (σ 235) t := by rw [er 233 (by decide), er 234 (by decide), er 235 (by decide)]
      have ebd : bdL ρ r v (tvs (σ 233) (σ 234) (σ 235) t) = bdL σ r v (tvs (σ 233) (σ 234) (σ 235) t) := bdL_eq (hρo _ (by omega)) (hρo _ (by omega)) (eT _ (by decide))
      have hb6 : (bdL σ r v (tvs (σ 233) (σ 234) (σ 235) t)).length ≤ 6 := by
        refine op_len (σ := σ) bdL_nd (fun u hu => ?_) (fun u hu w hw hne he => hne ?_)
        · obtain ⟨hu1, -⟩ := bdL_mem.mp hu
          obtain ⟨k, k1, k2⟩ := hpl u hu1
          exact ⟨k, by omega, by rw [← hplo u (hvm u hu1).1 (hvm u hu1).2]; exact k2⟩
        · have hu1 := (bdL_mem.mp hu).1
          have hw1 := (bdL_mem.mp hw).1
          exact hinj u hu1 w hw1 (by rw [hplo u (hvm u hu1).1 (hvm u hu1).2, hplo w (hvm w hw1).1 (hvm w hw1).2]; exact he)
      iterate 3 (refine kX_one rfl ?_)
      refine kX_cal (mf_bindIn L xs (d + 1) ρ n b0 r e t v hTρ hIρ hAρ (by rw [etv, eT 12 (by decide)]; exact hpl) (by rw [etv, eT 12 (by decide)]; exact hinj) (by rw [etv, ebd]; exact hb6) hr4 he ht v1 (by rw [hρo _ (by omega)]; exact v2) (fun j hj => ?_) hte hbc) rfl (Or.inr rfl) rfl rfl rfl (fun r1 τ1 q1 => ?_)
      · obtain ⟨so, s1, s2, -⟩ := so1 j hj
        exact ⟨so, s1, by rw [hρo _ (by omega)]; exact s2⟩
      · obtain ⟨rfl, ST, VS, ⟨f1, f2⟩, ⟨m1, m2, m3⟩, hG⟩ := q1
        rw [etv, ebd] at m1 m2 m3 hG
        generalize hbl : bdL σ r v (tvs (σ 233) (σ 234) (σ 235) t) = bl at *
        have hτ1 : ∀ c, c ≠ 20 → c ≠ 21 → c ≠ 26 + 35 * r → c ≠ 28 + 35 * r + 5 * e → c ≠ 28 + 35 * r + 5 * e + 1 → c ≠ 28 + 35 * r + 5 * e + 2 → τ1 c = σ c := fun c x1 x2 x3 x4 x5 x6 => by
          rw [f1 c x3 x4 x5 x6]
          unfold lvU
          rw [up_ne x2, up_ne x1, hρo c x4]
        have f2' : ∀ j, j ≠ 4 → τ1 (28 + 35 * r + 5 * e) j = ρ (28 + 35 * r + 5 * e) j := fun j hj => by
          rw [f2 j hj]
          unfold lvU
          rw [up_ne (by omega), up_ne (by omega)]
        have hte1 : τ1 (28 + 35 * r + 5 * e) 1 = nI t := by
          rw [f2' _ (by decide)]
          exact hte
        have hT1 : cT τ1 n := by
          refine cT_eq (by rw [hτ1 1 (by decide) (by decide) (by omega) (by omega) (by omega) (by omega)]) (hτ1 _ (by decide) (by decide) (by omega) (by omega) (by omega) (by omega)) (fun u _ => ?_) hT
          rw [hτ1 2 (by decide) (by decide) (by omega) (by omega) (by omega) (by omega), hτ1 3 (by decide) (by decide) (by omega) (by omega) (by omega) (by omega), hτ1 4 (by decide) (by decide) (by omega) (by omega) (by omega) (by omega), hτ1 8 (by decide) (by decide) (by omega) (by omega) (by omega) (by omega), hτ1 12 (by decide) (by decide) (by omega) (by omega) (by omega) (by omega), hτ1 6 (by decide) (by decide) (by omega) (by omega) (by omega) (by omega)]
          exact ⟨rfl, rfl, rfl, rfl, rfl, rfl⟩
        have er1 : ∀ c, 232 ≤ c → τ1 c = σ c := fun c hc => hτ1 c (by omega) (by omega) (by omega) (by omega) (by omega) (by omega)
        have eT1 : ∀ c, c < 13 → τ1 c = σ c := fun c hc => hτ1 c (by omega) (by omega) (by omega) (by omega) (by omega) (by omega)
        have hI1 : mTb τ1 n b0 := mTb_hi er1 hI
        have hA1 : aT τ1 n := aT_c (fun c _ c2 => eT1 c c2) (eqC_of (P := fun c => 232 ≤ c) er1 _ (by decide)) hA
        obtain ⟨tl1, tl2, tl3⟩ := tsl_all (mTb_num hI) (t + 1) t (Nat.lt_succ_self t) ht
        have hbm : ∀ w ∈ bl, w ∈ tvs (σ 233) (σ 234) (σ 235) t := fun w hw => by
          rw [← hbl] at hw
          exact (bdL_mem.mp hw).1
        have hbp : ∀ i (hi : i < bl.length), τ1 (28 + 35 * r + 5 * e + 1) i = σ 241 (bl[i]'hi) := fun i hi => by
          have hw := hbm _ (List.getElem_mem hi)
          rw [(hG.2.1 i hi).1, eT 12 (by decide), hplo _ (hvm _ hw).1 (hvm _ hw).2]
        iterate 5 (refine kX_one rfl ?_)
        refine kX_cal (mf_plan L xs d τ1 n b0 r e t bl.length hT1 hI1 hA1 (tsl (σ 233) (σ 234) (σ 235) (t + 1) t) tl2 (by rw [er1 234 (by decide), er1 235 (by decide)]; exact fun u hu => ⟨(tl3 u hu).2.1, (tl3 u hu).2.2.1, (tl3 u hu).2.2.2⟩) (by rw [tl1]; exact h24s) (by rw [er1 233 (by decide), er1 234 (by decide), er1 235 (by decide)]; exact tsl_tvs (mTb_num hI) (t + 1) t (Nat.lt_succ_self t) ht) bl rfl hr4 he ht m1 hte1 m2 (by rw [er1 241 (by decide)]; exact hbp) (by rw [er1 241 (by decide)]; exact fun i hi j hj q => bl_inj hbl hvm hplo hinj hi hj q) (by rw [er1 233 (by decide)]; exact fun w hw => hvm w (hbm w hw))) rfl (Or.inr rfl) rfl (jcall_v rfl rfl rfl (hEv) rfl rfl) rfl (fun r1 σ1 q1 => ?_)
        obtain ⟨rfl, p, ⟨g1, g2⟩, ⟨p1, p2, p3, p4⟩, hP⟩ := q1
        refine kX_lv _ rfl rfl rfl (k71 σ1 ⟨(g2 _ (by decide)).trans hte1, (g2 _ (by decide)).trans ((f2' _ (by decide)).trans (by rw [hρa]; rfl)), fun z => absurd q2 z, fun _ => ⟨⟨(g2 _ (by decide)).trans m2, fun j hj => ?_, fun k' hk' => ?_⟩, hP⟩⟩ (fun c x1 x2 x3 x4 x5 => ?_) ⟨t, bl.length, p, ht, m1, p1, (g2 _ (by decide)).trans hte1, (g2 _ (by decide)).trans m2, p2, fun j hj => ⟨?_, ?_, p4 (j + 1) (by omega)⟩, p3⟩)
        · rw [g1 _ (by omega) (by omega) (by omega) (by omega), g1 _ (by omega) (by omega) (by omega) (by omega), (hG.2.1 j hj).1, (hG.2.1 j hj).2, eT 12 (by decide), hρo _ (by omega)]
          exact ⟨rfl, rfl⟩
        · rw [g1 _ (by omega) (by omega) (by omega) (by omega), hG.2.2 k' hk', eT 12 (by decide), hρo _ (by omega)]
        · rw [g1 c x3 (by omega) (by omega) (by omega)]
          exact hτ1 c x1 x2 x4 (by omega) (by omega) (by omega)
        · rw [g1 _ (by omega) (by omega) (by omega) (by omega)]
          exact (m3 j hj).1
        · rw [g1 _ (by omega) (by omega) (by omega) (by omega)]
          exact (m3 j hj).2
  · have q := qltF q e 6
    omega
