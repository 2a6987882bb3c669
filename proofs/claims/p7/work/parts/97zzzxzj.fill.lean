/-! alike: fillKnowledge -/
/-- an intruder at work, seen from σ -/
def gK (σ τ : kS) (K st n u m : Nat) (l : rwT) : Prop := nF2 σ τ K st ∧ iE τ K st n u m l ∧ cCn τ n ∧ gR τ n
theorem gK_cell {σ τ : kS} {K st n u m : Nat} {l : rwT} (h : gK σ τ K st n u m l) {c : Nat} (c1 : c = 1 ∨ 7 ≤ c) (c3 : c < K ∨ K + 9 ≤ c) : τ c = σ c := h.1.1.1 c c3 (by omega) (by omega) (by omega) (by omega) (by omega)
theorem gK_num {σ τ : kS} {K st n u m : Nat} {l : rwT} (h : gK σ τ K st n u m l) {t : Nat} (ht : t < n) : τ 2 t = σ 2 t ∧ τ 3 t = σ 3 t ∧ τ 4 t = σ 4 t := by
  have hn := h.2.1.2.1
  have := isK_b h.2.1.1
  have := h.1.1.2 t (by omega)
  exact ⟨this.1, this.2.1, this.2.2.1⟩
/-- filled -/
def fiP (σ σ' : kS) (K st n m : Nat) (tr : trT) : Prop := ∃ u l, gK σ σ' K st n u m l ∧ σ' K 13 = 1 ∧ kTr σ' l = tr
set_option maxRecDepth 100000 in
set_option maxHeartbeats 4000000 in
theorem mf_fill (L : Nat) (xs : Nat → Int32) (d : Nat) (σ υ : kS) (K st n b R S A M base m : Nat) (kl : List Nat) (g0 : Nat → Int32) (hK : isK K st) (hv : vw σ υ) (hTv : mTb υ n b) (hRo : mRo υ n R) (hKn : mKn υ n kl) (hSv : mSv υ n R S) (hAT : aT υ n) (aR' : aR υ R) (aS' : aS υ S) (hak : aK υ kl) (hst : staV υ A base S) (hcT : cT σ n) (hcRo : cRo σ n R) (hS4 : S ≤ 4) (hSc : σ 13 6 = nI S) (hKw : cKw σ K st) (hms : kMs σ K m) (hm : m < 2147483646) (hA : kT[A]? = some (.inl (0, M, .inl g0))) (hM : M ≤ 100000) (hA2 : (A < K ∨ K + 9 ≤ A) ∧ 13 ≤ A ∧ A < 232) (hbm : base + 28 ≤ M) : kXM kT L xs (d + 54) 22 [.ref 13, .ref K, .ref A, .int (nI base)] σ (fun r σ' => r = none ∧ fiP σ σ' K st n (m + 1) (trSt υ kl S)) := by
  have hb := isK_b hK
  have hR4 := hRo.1
  have hn := hTv.1
  have hlo : ∀ c, c < 232 → υ c = σ c := fun c hc => vw_low hv hc
  have hT := vw_Tb hv hTv
  have hAs : aT σ n := aT_c (fun c c1 c2 => (hlo c (by omega)).symm) (vw_c hv _ (by decide)) hAT
  obtain ⟨u0, hB0, hR0, he0⟩ := cKw_n hK hcT hKw
  unfold kXM
  iterate 2 (refine kX_one rfl ?_)
  refine kX_cal (mf_beginKn L xs (d + 50) σ K st n b u0 m kl hB0 he0 hT hAs hms hm (aK_eq (by rw [hlo 13 (by decide)]) (hlo _ (by decide)).symm hak) (vw_Kn hv hKn)) rfl (Or.inr rfl) rfl rfl rfl (fun r1 ρ q1 => ?_)
  obtain ⟨rfl, hF0, l0, hE0, hC0, hG0, hTr0, hw0⟩ := q1
  have k124 : ∀ τ u l, gK σ τ K st n u (m + 1) l → τ K 13 = 0 → kTr τ l = trSs υ (trKn υ kl) S → ∀ lv, nk lv = true → ([(1, .ref K)] : jL).map (fun q => jl lv q.1) = ([(1, Value.ref K)] : jL).map (fun q => some q.2) → kX kT L xs (d + 54) 22 124 lv [] τ (fun r σ' => r = none ∧ fiP σ σ' K st n (m + 1) (trSt υ kl S)) := by
    intro τ u l hG hw htr lv hk hlv
    refine kX_lv _ hk rfl hlv ?_
    iterate 1 (refine kX_one rfl ?_)
    refine kX_cal (mf_takeApart L xs d τ K st n u (m + 1) l hG.2.1 hw) rfl (Or.inr rfl) rfl (jcall_v rfl rfl rfl (kT_kn hK) rfl rfl) rfl (fun r1 σ1 q1 => ?_)
    obtain ⟨rfl, l', t1, t2, t3, t4⟩ := q1
    have hf : kTr σ1 l' = trSt υ kl S := by
      rw [t4, htr]
      have e1 : τ 238 = υ 238 := (gK_cell hG (by decide) (by omega)).trans (hv.1 _ (by decide) (by decide) (by decide) (by decide) (by decide)).symm
      have e2 : mA τ = mA υ := by
        funext t
        unfold mA
        rw [gK_cell hG (c := 233) (by decide) (by omega), hv.1 233 (by decide) (by decide) (by decide) (by decide) (by decide)]
      rw [e1, e2]
      rfl
    refine kX_ret (i := .return_) (len := 1) rfl (Or.inr rfl) rfl (⟨rfl, u, l', ⟨nF2_trans hG.1 (nF2_P hK t3), t1, cCn_P hK t3 hG.2.2.1, gR_P hK t3 hG.2.2.2⟩, t2, hf⟩)
  have inner : ∀ s r e dn : Nat, s < S → r < R → e ≤ 6 → dn ≤ e → υ 255 s = nI r → υ 247 r = nI e → υ 264 s = nI dn → (∀ τ u l, gK σ τ K st n u (m + 1) l → u ≤ 24 * (6 * (s + 1)) → τ K 13 = 0 → kTr τ l = trSs υ (trKn υ kl) (s + 1) → kX kT L xs (d + 54) 22 118 [(4, .int (nI s)), (0, .ref 13), (1, .ref K), (2, .ref A), (3, .int (nI base))] [] τ (fun r σ' => r = none ∧ fiP σ σ' K st n (m + 1) (trSt υ kl S))) →
      ∀ q : Nat × kS × Nat × rwT, (q.1 ≤ dn ∧ gK σ q.2.1 K st n q.2.2.1 (m + 1) q.2.2.2 ∧ q.2.2.1 ≤ 24 * (6 * s + q.1) ∧ q.2.1 K 13 = 0 ∧ kTr q.2.1 q.2.2.2 = trSe υ s (trSs υ (trKn υ kl) s) q.1) → kX kT L xs (d + 54) 22 44 [(7, .int (nI q.1)), (6, .int (nI dn)), (5, .ref (23 + 35 * r)), (4, .int (nI s)), (0, .ref 13), (1, .ref K), (2, .ref A), (3, .int (nI base))] [] q.2.1 (fun r σ' => r = none ∧ fiP σ σ' K st n (m + 1) (trSt υ kl S)) := by
    intro s r e dn hs hr he6 hdn hrs hev hdo hgo
    have hr4 : r < 4 := by omega
    have hfe : fN (υ 247 r) = e := by rw [hev]; exact fN_nI (by omega)
    have hfr : fN (υ 255 s) = r := by rw [hrs]; exact fN_nI (by omega)
    have hfd : fN (υ 264 s) = dn := by rw [hdo]; exact fN_nI (by omega)
    have hR1 := aR' r hr
    obtain ⟨r', w1, w2, w3, w4, -, w6, -⟩ := hSv.2 s hs
    obtain rfl : r = r' := nI_inj (hrs.symm.trans w2)
    rw [hfd] at w6
    refine kX_while (fun q : Nat × kS × Nat × rwT => [(7, .int (nI q.1)), (6, .int (nI dn)), (5, .ref (23 + 35 * r)), (4, .int (nI s)), (0, .ref 13), (1, .ref K), (2, .ref A), (3, .int (nI base))]) (fun q => q.2.1) _ (fun q => dn - q.1) ?_
    rintro ⟨k, τ, u, l⟩ ⟨i1, i2, i3, i4, i5⟩ ih
    dsimp only at i1 i2 i3 i4 i5 ih ⊢
    iterate 2 (refine kX_one rfl ?_)
    repeat refine kX_one rfl ?_
    refine kX_if (fun q => ?_) (fun q => ?_)
    · have q := qge q k dn
      obtain rfl : k = dn := by omega
      have : trSs υ (trKn υ kl) (s + 1) = trSe υ s (trSs υ (trKn υ kl) s) k := by
        show trSe υ s (trSs υ (trKn υ kl) s) (fN (υ 264 s)) = _
        rw [hfd]
      exact kX_lv _ rfl rfl rfl (hgo τ u l i2 (by omega) i4 (by rw [this]; exact i5))
    · have q := qgeF q k dn
      iterate 2 (refine kX_one rfl ?_)
      refine kX_getN rfl rfl (kT_ro hr4) rfl ?_
      refine kX_top (y := nI e) (by rw [gK_cell i2 (by omega) (by omega), ← hlo (23 + 35 * r) (by omega)]; exact hR1.2.1.trans hev) ?_
      repeat refine kX_one rfl ?_
      refine kX_if (fun q2 => ?_) (fun q2 => ?_)
      · have q2 := qge q2 k e
        omega
      · have hk6 : k < 6 := by omega
        have hEv := hR1.2.2.2.2 k (by rw [hfe]; omega)
        obtain ⟨t, t1, t2, -⟩ := hRo.2.2.2.2.2 r k hr (by rw [hfe]; omega)
        have hft : fN (υ 248 (6 * r + k)) = t := by rw [t2]; exact fN_nI (by omega)
        have htr : trSe υ s (trSs υ (trKn υ kl) s) (k + 1) = cit (υ 249 (6 * r + k) ≠ 0) (trA (trSe υ s (trSs υ (trKn υ kl) s) k) (tin υ s t) (nI 1) (-6)) (trSe υ s (trSs υ (trKn υ kl) s) k) := by
          rw [trSe]
          unfold mEv
          rw [hfr, hft]
        have k112 : ∀ τ' u' l', gK σ τ' K st n u' (m + 1) l' → u' ≤ 24 * (6 * s + (k + 1)) → τ' K 13 = 0 → kTr τ' l' = trSe υ s (trSs υ (trKn υ kl) s) (k + 1) → kX kT L xs (d + 54) 22 112 [(7, .int (nI k)), (6, .int (nI dn)), (5, .ref (23 + 35 * r)), (4, .int (nI s)), (0, .ref 13), (1, .ref K), (2, .ref A), (3, .int (nI base))] [] τ' (fun r σ' => r = none ∧ fiP σ σ' K st n (m + 1) (trSt υ kl S)) := by
          intro τ' u' l' x1 x2 x3 x4
          iterate 2 (refine kX_one rfl ?_)
          have := ih (k + 1, τ', u', l') ⟨q, x1, x2, x3, x4⟩ (by simp only; omega)
          dsimp only at this
          rw [← nI_1] at this
          exact kX_lv _ rfl rfl rfl this
        have hgc : ∀ j, τ (28 + 35 * r + 5 * k) j = υ (28 + 35 * r + 5 * k) j := fun j => by rw [gK_cell i2 (by omega) (by omega), hlo (28 + 35 * r + 5 * k) (by omega)]
        iterate 1 (refine kX_one rfl ?_)
        refine kX_getN rfl rfl (kT_ro hr4) rfl ?_
        iterate 1 (refine kX_one rfl ?_)
        refine kX_aaldN rfl (kT_re hr4) (by decide) (by decide) (by decide) (k) (by first | rfl | decide) (hk6) (ev_at hk6) ?_
        refine kX_getN rfl rfl (kT_ev hr4 hk6) rfl ?_
        repeat refine kX_one rfl ?_
        refine kX_if (fun q3 => ?_) (fun q3 => ?_)
        · have q3 : υ (28 + 35 * r + 5 * k) 0 = 0 := (hgc _).symm.trans (qeq q3)
          have hz : ¬ υ 249 (6 * r + k) ≠ 0 := fun z => hEv.2.1.mpr z q3
          exact k112 τ u l i2 (by omega) i4 (by rw [htr, cit_F hz]; exact i5)
        · have q3 : υ (28 + 35 * r + 5 * k) 0 ≠ 0 := fun z => qeqF q3 ((hgc _).trans z)
          have hz : υ 249 (6 * r + k) ≠ 0 := hEv.2.1.mp q3
          have hst' := w6 k q
          rw [hft] at hst'
          obtain ⟨hks, hkw⟩ := kSt_run (σ := υ) (τ := τ) (A := A) (base := base + 7 * s + 1) hTv hAT.1 t1 hst' (fun p hp => by
            rw [gK_cell i2 (by omega) (by omega), ← hlo A (by omega)]
            exact (hst s hs).2 p hp) ((gK_cell i2 (by decide) (by omega)).trans (hlo _ (by decide)).symm) ((gK_cell i2 (by decide) (by omega)).trans (hlo _ (by decide)).symm) (fun z hz => by rw [hlo 2 (by decide), hlo 3 (by decide), hlo 4 (by decide)]; exact gK_num i2 hz)
          have hdz : kDp τ t ≤ 23 ∧ kSz τ t ≤ 24 := by
            have h1 := i2.2.1.2.2.2.2.2.2.2.2.1 t t1
            have e1 : kSz τ t = tsz (υ 233) (υ 234) (υ 235) t := by
              unfold kSz tsz
              exact tA_congr (mTb_num hTv) (fun z hz => by
                obtain ⟨a, b, c⟩ := gK_num i2 hz
                obtain ⟨a2, b2, c2, -⟩ := hAT.1 z hz
                rw [hlo 2 (by decide)] at a2
                rw [hlo 3 (by decide)] at b2
                rw [hlo 4 (by decide)] at c2
                exact ⟨a.trans a2, b.trans b2, c.trans c2, rfl⟩) t t1
            rw [e1]
            exact ⟨h1, hTv.2.2.2.2.2.2.2.2.2 t t1⟩
          iterate 2 (refine kX_one rfl ?_)
          refine kX_getN rfl rfl (kT_ro hr4) rfl ?_
          iterate 1 (refine kX_one rfl ?_)
          refine kX_aaldN rfl (kT_re hr4) (by decide) (by decide) (by decide) (k) (by first | rfl | decide) (hk6) (ev_at hk6) ?_
          refine kX_getN rfl rfl (kT_ev hr4 hk6) rfl ?_
          refine kX_top (y := nI t) ((hgc _).trans (hEv.1.trans t2)) ?_
          iterate 8 (refine kX_one rfl ?_)
          refine kX_top (y := nI (base + 7 * s + 1)) (ix7w base s) ?_
          iterate 1 (refine kX_one rfl ?_)
          refine kX_cal (mf_groundOf L xs K st n A M (base + 7 * s + 1) (m + 1) l _ g0 hA hM ⟨hA2.1, hA2.2.1⟩ (by omega) 49 d 0 u τ t rfl (by omega) i2.2.1 i2.2.2.1 i2.2.2.2 t1 hks (by omega)) rfl (Or.inr rfl) rfl (jcall_v rfl rfl rfl (kT_kn hK) rfl rfl) rfl (fun r1 σ1 q1 => ?_)
          obtain ⟨u1, g1, rfl, a2, a3, a4, a5, a6, a7, a8, a9, a10⟩ := q1
          iterate 5 (refine kX_one rfl ?_)
          refine kX_cal (mf_add L xs (d + 51) σ1 K st n u1 (m + 1) g1 l (Int32.ofInt 1) (Int32.ofInt (-1)) a7 a2 a3 (a9.2.2.2.trans i4)) rfl (Or.inr rfl) rfl (jcall_v rfl rfl rfl (kT_kn hK) rfl rfl) rfl (fun r1 σ2 q1 => ?_)
          obtain ⟨rfl, b2, b3, b4⟩ := q1
          have hG4 : gK σ σ2 K st n u1 (m + 1) (rwA l g1 (Int32.ofInt 1) (Int32.ofInt (-1))) := ⟨nF2_trans i2.1 (nF2_trans a9.2.1 (nF2_P hK b4)), b2, cCn_P hK b4 a8, gR_P hK b4 (iX_gR i2.2.1 a9 i2.2.2.2)⟩
          have htr2 : kTr σ2 (rwA l g1 (Int32.ofInt 1) (Int32.ofInt (-1))) = trSe υ s (trSs υ (trKn υ kl) s) (k + 1) := by
            rw [htr, cit_T hz, kTr_c (nP_c hK b4), kTr_add a7 a2, a4, hkw, iX_kTr i2.2.1 a9, i5]
            rfl
          iterate 1 (refine kX_one rfl ?_)
          exact kX_lv _ rfl rfl rfl (k112 σ2 u1 _ hG4 (by omega) b3 htr2)
  have outer : ∀ q : Nat × kS × Nat × rwT, (q.1 ≤ S ∧ gK σ q.2.1 K st n q.2.2.1 (m + 1) q.2.2.2 ∧ q.2.2.1 ≤ 24 * (6 * q.1) ∧ q.2.1 K 13 = 0 ∧ kTr q.2.1 q.2.2.2 = trSs υ (trKn υ kl) q.1) → kX kT L xs (d + 54) 22 8 [(4, .int (nI q.1)), (0, .ref 13), (1, .ref K), (2, .ref A), (3, .int (nI base))] [] q.2.1 (fun r σ' => r = none ∧ fiP σ σ' K st n (m + 1) (trSt υ kl S)) := by
    refine kX_while (fun q : Nat × kS × Nat × rwT => [(4, .int (nI q.1)), (0, .ref 13), (1, .ref K), (2, .ref A), (3, .int (nI base))]) (fun q => q.2.1) _ (fun q => S - q.1) ?_
    rintro ⟨s, τ, u, l⟩ ⟨i1, i2, i3, i4, i5⟩ ih
    dsimp only at i1 i2 i3 i4 i5 ih ⊢
    iterate 3 (refine kX_one rfl ?_)
    refine kX_top (y := nI S) (by rw [gK_cell i2 (by omega) (by omega)]; exact hSc) ?_
    repeat refine kX_one rfl ?_
    refine kX_if (fun q => ?_) (fun q => ?_)
    · have q := qge q s S
      obtain rfl : s = S := by omega
      exact k124 τ u l i2 i4 i5 _ rfl rfl
    · have q := qgeF q s S
      obtain ⟨r, hr, hr2, hr3, hr5, -⟩ := hSv.2 s q
      obtain ⟨-, e, e1, e2⟩ := hRo.2.2.1 r hr
      rw [e2, fN_nI (by omega)] at hr5
      have hr4 : r < 4 := by omega
      have hrole : τ 15 s = nI r := by
        rw [gK_cell i2 (c := 15) (by decide) (by omega), ← hlo 15 (by decide)]
        exact (aS' s q).1.trans hr2
      iterate 5 (refine kX_one rfl ?_)
      refine kX_ialdV rfl rfl (by decide) (s) (by first | rfl | decide) (by omega) (hrole) ?_
      refine kX_aaldN rfl (rfl) (by decide) (by decide) (by decide) (r) (by first | rfl | decide) (hr4) (ro_at hr4) ?_
      iterate 5 (refine kX_one rfl ?_)
      refine kX_cal (mc_doneBy L xs (d + 52) τ A M base s g0 hA hM (by omega)) rfl (Or.inr rfl) rfl rfl rfl (fun r1 σ1 q1 => ?_)
      obtain ⟨rfl, rfl⟩ := q1
      refine kX_top (y := nI (fN (υ 264 s))) (by rw [gK_cell i2 (by omega) (by omega), ← hlo A (by omega), (hst s q).1]; exact hr3) ?_
      iterate 3 (refine kX_one rfl ?_)
      refine kX_lv _ rfl rfl rfl (inner s r e (fN (υ 264 s)) q hr e1 hr5 hr2 e2 hr3 (fun τ' u' l' x1 x2 x3 x4 => ?_) (0, τ, u, l) ⟨Nat.zero_le _, i2, by simp only; omega, i4, i5⟩)
      iterate 2 (refine kX_one rfl ?_)
      have := ih (s + 1, τ', u', l') ⟨q, x1, x2, x3, x4⟩ (by simp only; omega)
      dsimp only at this
      rw [← nI_1] at this
      exact kX_lv _ rfl rfl rfl this
  iterate 2 (refine kX_one rfl ?_)
  exact kX_lv _ rfl rfl rfl (outer (0, ρ, 0, l0) ⟨Nat.zero_le _, ⟨hF0, hE0, hC0, hG0⟩, Nat.zero_le _, hw0, (show kTr ρ l0 = trKn υ kl from hTr0.trans (vw_trKn hv))⟩)
