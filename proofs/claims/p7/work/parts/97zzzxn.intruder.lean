/-! alike: the RUN's intruder -/
theorem iE_nW {σ : kS} {K st n u m : Nat} {l : rwT} (h : iE σ K st n u m l) (hT : cT σ n) (hG : gR σ n) : nW σ K st n u := by
  have hb := isK_b h.1
  have hV := iE_V h
  obtain ⟨u1, u2, u3, u4, u5, u6⟩ := h.2.2.2.2.1
  have key : ∀ x, kV n st u x → kGd σ x → cKc σ n (nI x) := fun x hx hd => by
    rcases hx with q | q
    · exact Or.inr (Or.inl ⟨x, q, rfl, (hG x q).trans (isB_T hd)⟩)
    · exact Or.inr (Or.inr ⟨x, by omega, by omega, rfl⟩)
  refine ⟨iE_nB h, iE_nR h, ⟨fun s hs => ?_, fun g g1 g2 => ⟨?_, ?_⟩⟩, fun g g1 g2 => ?_, hT⟩
  · rcases u6.1 s hs with q | ⟨g, g1, g2, g3, -⟩
    · exact Or.inl q.1
    · refine Or.inr ⟨g, g3.1.1, g3.1.2, g2, ?_⟩
      have := (cSl_ok (σ 2 g) (σ 3 g) (σ 4 g)).2
      rw [this]
      exact congrArg nI g3.2
  · rcases u6.2 g ⟨g1, g2⟩ with q | ⟨g', q1, q2, q3, -⟩
    · exact Or.inl q.1
    · exact Or.inr ⟨g', q3.1.1, q3.1.2, q2⟩
  · rcases (hV g (Or.inr ⟨g1, g2⟩)).2 with ⟨k, h3, hk, -, -⟩ | ⟨k, x, y, h3, hk, -⟩ | ⟨k, x, h3, hk, -⟩
    · have := (u5 g g1 g2).1
      rw [hk, fN_nI (by omega)] at this
      omega
    · exact ⟨k, by omega, by omega, hk⟩
    · exact ⟨k, by omega, by omega, hk⟩
  · have hgd : tgd (σ 2) (σ 3) (σ 4) g = true := (u5 g g1 g2).2.1
    rcases (hV g (Or.inr ⟨g1, g2⟩)).2 with ⟨k, h3, hk, hf, hs⟩ | ⟨k, x, y, h3, hk, hx, hy, h4, h5, h6, h7⟩ | ⟨k, x, h3, hk, hx, hy, h4, h6⟩
    · exact ⟨Or.inl hf, Or.inl hs⟩
    · rw [tgd_2 hV hk hx hy (by omega) (by omega) h4 h5 h6 h7, Bool.and_eq_true] at hgd
      rw [hx, hy]
      exact ⟨key x h6 hgd.1, key y h7 hgd.2⟩
    · rw [tgd_1 hV hk hx hy (by omega) (by omega) h4 h6] at hgd
      rw [hx, hy]
      exact ⟨key x h6 hgd, Or.inl rfl⟩
/-- the RUN's intruder is ready: his row is tr -/
def inQ (σ τ : kS) (n u m : Nat) (l : rwT) (tr : trT) : Prop := nF2 (va_up (va_up σ 184 (τ 184)) 181 (τ 181)) τ 186 200 ∧ (∀ j, j ≠ 9 → τ 181 j = σ 181 j) ∧ τ 181 9 = nI n ∧ iE τ 186 200 n u m l ∧ cCn τ n ∧ gR τ n ∧ τ 186 13 = 1 ∧ kTr τ l = tr
theorem inQ_cell {σ τ : kS} {n u m : Nat} {l : rwT} {tr : trT} (h : inQ σ τ n u m l tr) {c : Nat} (c1 : 7 ≤ c) (c2 : c ≠ 184) (c4 : c ≠ 181) (c3 : c < 186 ∨ 195 ≤ c) : τ c = σ c := by
  have := h.1.1.1 c c3 (by omega) (by omega) (by omega) (by omega) (by omega)
  rw [up_ne c4, up_ne c2] at this
  exact this
theorem inQ_cT {σ τ : kS} {n u m : Nat} {l : rwT} {tr : trT} (h : inQ σ τ n u m l tr) (hT : cT σ n) : cT τ n :=
  cT_nF (Or.inl ⟨rfl, rfl⟩) h.1.1 (cT_eq (σ := σ) rfl rfl (fun _ _ => ⟨rfl, rfl, rfl, rfl, rfl, rfl⟩) hT)
theorem inQ_cJ {σ τ : kS} {n R S C u m : Nat} {l : rwT} {tr : trT} (h : inQ σ τ n u m l tr) (hJ : cJ σ n R S C) : cJ τ n R S C :=
  cJ_in hJ h.1.1 (iE_nW h.2.2.2.1 (inQ_cT h hJ.1) h.2.2.2.2.2.1) h.2.1 (Or.inr ⟨n, Nat.le_refl _, h.2.2.1⟩)
theorem inQ_ok {σ τ : kS} {n u m : Nat} {l : rwT} {tr : trT} (h : inQ σ τ n u m l tr) : kOk τ 186 200 n tr := by
  obtain ⟨-, -, -, hE, -, -, hw, ht⟩ := h
  exact ⟨u, m, l, hE.2.2.2.2.2.2.1.1, hE.2.2.2.2.2.2.1.2, hE.2.2.2.2.1, hE.2.2.2.2.2.1, hE.2.2.2.2.2.2.2.1, ht, hw, hE.2.2.2.2.2.2.2.2.2⟩
theorem trRun_hi {σ τ : kS} {kl ds : List Nat} (h : ∀ c, 232 ≤ c → τ c = σ c) : trRun τ kl ds = trRun σ kl ds := by
  have e := eqC_of h [233, 234, 235, 238, 241, 265, 249, 248, 255] (by decide)
  have e1 : trKn τ kl = trKn σ kl := by
    unfold trKn
    rw [e 233 (by decide), e 234 (by decide), e 235 (by decide)]
  have e2 : tin τ = tin σ := by
    funext s t
    unfold tin mVl
    rw [e 233 (by decide), e 234 (by decide), e 235 (by decide), e 265 (by decide), e 241 (by decide)]
  have e3 : ∀ k, trSn τ ds (trKn σ kl) k = trSn σ ds (trKn σ kl) k := by
    intro k
    induction k with
    | zero => rfl
    | succ k ih =>
      unfold trSn mEv
      rw [ih, e2, e 249 (by decide), e 248 (by decide), e 255 (by decide)]
  have e4 : mA τ = mA σ := by
    unfold mA
    rw [e 233 (by decide)]
  unfold trRun
  rw [e1, e3, e4, e 238 (by decide)]
/-- both sides are alike with the RUN's intruder ready -/
theorem inQ_J {σ τ : kS} {n b R S C m u m' : Nat} {kl ds : List Nat} {l : rwT} (h : aJ σ n b R S C kl m) (hr0 : σ 232 52 ≠ 0) (hD : mRn σ n R S ds) (hQ : inQ σ τ n u m' l (trRun σ kl ds)) (hm : m' ≤ m + 1) : aJ τ n b R S C kl (m + 1) := by
  have hJ := inQ_cJ hQ h.2.1
  obtain ⟨i, -, t, r, s, c, k, hU, f, m1, m2, m3, x1, x2, x3, y1, y2, y3⟩ := h
  have ee : ∀ c, 7 ≤ c → c ≠ 184 → c ≠ 181 → c < 186 ∨ 195 ≤ c → τ c = σ c := fun c c1 c2 c3 c4 => inQ_cell hQ c1 c2 c3 c4
  have hr : ∀ l : List Nat, l.all (fun c => decide (232 ≤ c)) = true → eqC σ τ l := eqC_of (fun c q => ee c (by omega) (by omega) (by omega) (by omega))
  have hl : ∀ c, 13 ≤ c → c < 181 → τ c = σ c := fun c c0 hc => ee c (by omega) (by omega) (by omega) (by omega)
  have hh : ∀ c, 195 ≤ c → c < 232 → τ c = σ c := fun c c1 c2 => ee c (by omega) (by omega) (by omega) (by omega)
  have h2 : τ 232 = σ 232 := ee 232 (by decide) (by decide) (by decide) (by decide)
  have hlen := mRn_len i.2.1 i.2.2.1.1 hD
  refine ⟨mI_hi (fun c hc => ee c (by omega) (by omega) (by omega) (by omega)) i, hJ, ⟨hQ.2.2.2.1.2.2.2.1, hQ.2.2.2.2.1⟩, aR_c i.1 i.2.1 (fun c c1 c2 => hl c (by omega) (by omega)) (hr _ (by decide)) r, aS_c i.1.1 i.2.1 i.2.2.1 (hl _ (by decide) (by decide)) (hl _ (by decide) (by decide)) (hl _ (by decide) (by decide)) (hr _ (by decide)) s, aC_c i.2.2.2.2.1 (fun c c1 c2 => hl c (by omega) (by omega)) (hr _ (by decide)) c, aK_eq (by rw [hl 13 (by decide) (by decide)]) (hl _ (by decide) (by decide)) k, ?_, aF_c i.1 i.2.1 i.2.2.1 (fun c c1 c2 => hl c (by omega) (by omega)) (hr _ (by decide)) (hh _ (by decide) (by decide)) (hh _ (by decide) (by decide)) (hh _ (by decide) (by decide)) (hh _ (by decide) (by decide)) (by rw [h2]; exact ⟨rfl, rfl, rfl, rfl⟩) (hr _ (by decide)) f, m', m2, m3, hm, by omega, by omega, hQ.2.2.2.1.2.2.2.2.2.1, kMs_eq (fun c c1 c2 => hh c (by omega) (by omega)) y2, kMs_eq (fun c c1 c2 => hh c (by omega) (by omega)) y3⟩
  have htr : trRun τ kl ds = trRun σ kl ds := trRun_hi (fun c hc => ee c (by omega) (by omega) (by omega) (by omega))
  unfold aU at hU ⊢
  rw [hQ.2.1 8 (by decide), hQ.2.1 7 (by decide), h2, ee 17 (by decide) (by decide) (by decide) (by decide), ee 183 (by decide) (by decide) (by decide) (by decide), ee 182 (by decide) (by decide) (by decide) (by decide), hr [274, 264, 265] (by decide) 274 (by decide), hr [274, 264, 265] (by decide) 264 (by decide), hr [274, 264, 265] (by decide) 265 (by decide)]
  refine ⟨hU.1, fun z => ⟨(hU.2 z).1, (hU.2 z).2.1, (hU.2 z).2.2.1, (hU.2 z).2.2.2.1, fun _ => ⟨ds, hD.1, hD.2.1, hlen, hD.2.2.1, ?_⟩⟩⟩
  rw [htr]
  exact inQ_ok hQ
/-- what can be made is marked -/
theorem inQ_mk {σ τ : kS} {n u m : Nat} {l : rwT} {tr : trT} {M : Nat → Int32} (h : inQ σ τ n u m l tr) (hE : iE (va_up τ 192 M) 186 200 n u m l) : inQ σ (va_up τ 192 M) n u m l tr := by
  obtain ⟨h1, h2, h3, h4, h5, h6, h7, h8⟩ := h
  refine ⟨⟨⟨fun c a1 a2 a3 a4 a5 a6 => ?_, h1.1.2⟩, h1.2⟩, h2, h3, hE, h5, h6, h7, h8⟩
  rw [up_ne (by omega)]
  exact h1.1.1 c a1 a2 a3 a4 a5 a6
set_option maxRecDepth 100000 in
set_option maxHeartbeats 4000000 in
theorem mf_intruder (L : Nat) (xs : Nat → Int32) (d : Nat) (σ υ : kS) (n b R S C m : Nat) (kl ds : List Nat) (hv : vw σ υ) (h : aJ υ n b R S C kl m) (hm : m < 2147483646) (hr0 : υ 232 52 ≠ 0) (hD : mRn υ n R S ds) : kXM kT L xs (d + 55) 67 [.ref 181] σ (fun r σ' => r = some (.ref 186) ∧ ∃ u m' l, m' ≤ m + 1 ∧ inQ σ σ' n u m' l (trRun υ kl ds)) := by
  have hK : isK 186 200 := Or.inl ⟨rfl, rfl⟩
  have hlo : ∀ c, c < 232 → υ c = σ c := fun c hc => vw_low hv hc
  have hcT := (cJ_low (fun c hc => (hlo c hc).symm) h.2.1).1
  have hT := vw_Tb hv h.1.1
  have hA : aT σ n := aT_c (fun c c1 c2 => (hlo c (by omega)).symm) (vw_c hv _ (by decide)) h.2.2.1
  have hn := hT.1
  unfold kXM
  iterate 5 (refine kX_one rfl ?_)
  refine kX_top (hcT.2.1) ?_
  repeat refine kX_one rfl ?_
  refine kX_if (fun q => ?_) (fun q => ?_)
  · have q : σ 181 9 = nI n := qeq q
    obtain ⟨-, -, -, -, hg⟩ := h.2.2.2.2.2.2.2.1.2 hr0
    obtain ⟨ds', d1, d2, d3, d4, ok⟩ := hg (by rw [hlo 181 (by decide)]; exact q)
    have ok2 : kOk σ 186 200 n (trRun υ kl ds') := kOk_eq (fun c c1 c2 => (hlo c (by omega)).symm) (fun c c1 c2 => (hlo c (by omega)).symm) (fun t _ => by rw [hv.1 233 (by decide) (by decide) (by decide) (by decide) (by decide)]) (hv.1 _ (by decide) (by decide) (by decide) (by decide) (by decide)).symm ok
    obtain ⟨u, m', l, o1, o2, o3, o4, o5, o6, o7, o8⟩ := ok2
    have hlen := mRn_len h.1.2.1 h.1.2.2.1.1 hD
    have hS4 := h.1.2.2.1.1
    have e : ds' = ds := lst_inj d3 hlen (fun s hs => by have := d4 s hs; omega) (fun s hs => by have := hD.2.2.1 s hs; omega) (d1.symm.trans hD.1) d2 hD.2.1
    subst e
    obtain ⟨m1, m2, m3, x1, -, -, y1, -⟩ := h.2.2.2.2.2.2.2.2.2
    rw [kMs, hlo 186 (by decide)] at y1
    have em : m' = m1 := nI_inj (o4.1.symm.trans y1.1) (by omega) (by omega)
    repeat refine kX_one rfl ?_
    refine kX_ret (i := .areturn) (len := 1) rfl (Or.inr rfl) rfl ⟨rfl, u, m', l, by omega, by rw [kup_self, kup_self]; exact nF2_refl σ 186 200, fun _ _ => rfl, q, ⟨hK, hn, hcT.2.1, hA.1, o3, o4, ⟨o1, o2⟩, o5, fun t ht => (aT_dp hT hA.1 ht).1, o8⟩, hA.2, aT_gR hT hA.1, o7, o6⟩
  · iterate 1 (refine kX_one rfl ?_)
    refine kX_cal (mf_gather L xs d σ υ n b R S C m kl ds hv h hm hr0 hD) rfl (Or.inr rfl) rfl rfl rfl (fun r1 τ q1 => ?_)
    obtain ⟨rfl, m', hm', u, l, hG, hw, htr⟩ := q1
    iterate 4 (refine kX_one rfl ?_)
    refine kX_top (hG.2.1.2.2.1) ?_
    iterate 1 (refine kX_one rfl ?_)
    refine kX_st (va_up τ 181 (upd (τ 181) 9 (nI n))) rfl ?_
    iterate 2 (refine kX_one rfl ?_)
    refine kX_ret (i := .areturn) (len := 1) rfl (Or.inr rfl) rfl ⟨rfl, u, m', l, hm', ⟨⟨fun c a1 a2 a3 a4 a5 a6 => ?_, hG.1.1.2⟩, hG.1.2⟩, fun j hj => ?_, ?_, hG.2.1, hG.2.2.1, hG.2.2.2, hw, htr⟩
    · by_cases e : c = 181
      · subst e
        rfl
      · have := hG.1.1.1 c a1 a2 a3 a4 a5 a6
        rw [up_ne e, up_ne e]
        exact this
    · rw [up_eq, pk_un hj, gI_cell hG (c := 181) (by decide) (by decide) (by decide)]
    · rw [up_eq, pk_us]
