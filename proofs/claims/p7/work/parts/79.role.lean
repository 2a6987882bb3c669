/-! the reference: ROLES change, the row stays -/
theorem ro_tin {σ τ : kS} {n n1 b s t : Nat} (h : mTb σ n1 b) (hn1 : n ≤ n1) (hF : roF σ τ) (hV : roV σ τ n) (ht : t < n) : tin τ s t = tin σ s t := by
  obtain ⟨c1, c2, c3, c4, -⟩ := ro_c hF
  unfold tin
  rw [c1, c2, c3]
  have hU : ∀ u, u < n → u < 100000 ∧ tOk (fun u => u < n) (mAG σ n1) (σ 233) (σ 234) (σ 235) u := fun u hu => by
    have hq := mTb_num h u (by omega)
    exact ⟨hq.1, tOk_mono (fun x hx _ => by omega) (fun _ _ q => q) rfl rfl rfl hq.2⟩
  refine tA_congr hU (fun u hu => ⟨rfl, rfl, rfl, ?_⟩) t ht
  unfold mVl
  rw [c4, (hV u hu).2]
theorem ro_trSn {σ τ : kS} {n n1 b R S : Nat} {ds : List Nat} (h : mTb σ n1 b) (hn1 : n ≤ n1) (hR : mRo σ n R) (hF : roF σ τ) (hO : ∀ s, s < S → roO σ τ (fN (σ 255 s))) (hV : roV σ τ n) (hS : mRn σ n R S ds) (tr : trT) : ∀ k, k ≤ ds.length → trSn τ ds tr k = trSn σ ds tr k
  | 0, _ => rfl
  | k + 1, hk => by
    have hn := h.1
    have hR4 := hR.1
    have ih := ro_trSn h hn1 hR hF hO hV hS tr k (by omega)
    have hkl : k < ds.length := hk
    have hgd : ds.getD k 0 = ds[k] := by rw [List.getD_eq_getElem?_getD, List.getElem?_eq_getElem hkl]; rfl
    have hs := hS.2.2.1 _ (List.getElem_mem hkl)
    obtain ⟨r, r1, r2, r3, r4, r5, r6, -⟩ := hS.2.2.2 _ hs
    obtain ⟨-, ev, he6, hev⟩ := hR.2.2.1 r r1
    have hfe : fN (σ 247 r) = ev := by rw [hev]; exact fN_nI (by omega)
    have hcnt : (ds.take k).count ds[k] < ds.count ds[k] := by
      have := count_take_le ds ds[k] (k + 1)
      rw [List.take_succ_eq_append_getElem hkl, List.count_append] at this
      simp at this
      omega
    have hO := hO _ hs
    rw [r2, fN_nI (by omega)] at hO
    obtain ⟨c1, c2, c3, c4, c5, c6, -⟩ := ro_c hF
    have hmev : mEv τ ds[k] ((ds.take k).count ds[k]) = mEv σ ds[k] ((ds.take k).count ds[k]) := by
      unfold mEv
      rw [c6]
    have hmev2 : mEv σ ds[k] ((ds.take k).count ds[k]) = 6 * r + (ds.take k).count ds[k] := by
      unfold mEv
      rw [r2, fN_nI (by omega)]
    obtain ⟨t, t1, t2, -⟩ := hR.2.2.2.2.2 r ((ds.take k).count ds[k]) r1 (by omega)
    have ho := hO.2.2.2 ((ds.take k).count ds[k]) (by omega)
    rw [trSn, trSn, hgd, ih, hmev, hmev2, ho.2.2.2, ho.2.2.1, t2, fN_nI (by omega), ro_tin h hn1 hF hV t1]
theorem ro_trRun {σ τ : kS} {n n1 b R S : Nat} {kl ds : List Nat} (h : mTb σ n1 b) (hn1 : n ≤ n1) (hR : mRo σ n R) (hF : roF σ τ) (hO : ∀ s, s < S → roO σ τ (fN (σ 255 s))) (hV : roV σ τ n) (hS : mRn σ n R S ds) : trRun τ kl ds = trRun σ kl ds := by
  have e := ro_trSn h hn1 hR hF hO hV hS (trKn σ kl) ds.length (Nat.le_refl _)
  obtain ⟨VS, V, TA, E, ET, SE, CL, OR, SO, ON, x, rfl⟩ := hF
  unfold trRun
  rw [← e]
  rfl
theorem ro_Rt {σ τ : kS} {n b R S : Nat} {kl ds : List Nat} (h : mTb σ n b) (hR : mRo σ n R) (hF : roF σ τ) (hO : ∀ s, s < S → roO σ τ (fN (σ 255 s))) (hV : roV σ τ n) (hS : mRn σ n R S ds) (ht : mRt σ n b kl ds) : mRt τ n b kl ds := by
  have e := ro_trRun (kl := kl) h (Nat.le_refl n) hR hF hO hV hS
  obtain ⟨VS, V, TA, E, ET, SE, CL, OR, SO, ON, x, rfl⟩ := hF
  rcases ht with ht | ⟨ht, hb, l, l1, l2, l3⟩
  · exact Or.inl ht
  · refine Or.inr ⟨ht, hb, l, l1, l2, ?_⟩
    rw [e, ← l3]
    rfl
/-- TERMS as they were, ROLES changed -/
theorem mI_ro {σ τ : kS} {n b R R' S C : Nat} {kl : List Nat} (h : mI σ n b R S C kl) (hRR : R ≤ R') (hF : roF σ τ) (hO : ∀ s, s < S → roO σ τ (fN (σ 255 s))) (hV : roV σ τ n) (hT : mTb τ n b) (hRo : mRo τ n R') (hv : ∀ r, r < R → fN (σ 244 r) ≤ fN (τ 244 r)) : mI τ n b R' S C kl := by
  obtain ⟨h1, h2, h3, h4, h5, h6, h7⟩ := h
  have hn := h1.1
  refine ⟨hT, hRo, ro_Se hn h2 hRR hF hO hV h3, ?_, ro_Cl hRR hF hv h5, ?_, ro_Ak hn h2 h3 hF hO hV h7⟩
  · obtain ⟨VS, V, TA, E, ET, SE, CL, OR, SO, ON, x, rfl⟩ := hF
    exact h4
  · rcases h6 with h6 | ⟨h6, ds, g1, g2, g3⟩
    · exact Or.inl ((ro_f hF (by decide)).trans h6)
    · exact Or.inr ⟨(ro_f hF (by decide)).trans h6, ds, ro_Rn h1 (Nat.le_refl n) h2 hRR hF hO hV g1, ro_Bi h2 hF hO g1 g2, ro_Rt h1 h2 hF hO hV g1 g3⟩
theorem mLow_ro {σ τ : kS} (hF : roF σ τ) : mLow σ τ := by
  obtain ⟨VS, V, TA, E, ET, SE, CL, OR, SO, ON, x, rfl⟩ := hF
  intro c hc
  simp only [va_up]
  repeat rw [if_neg (by omega)]
/-- role: what it leaves -/
theorem mRo_role {σ : kS} {n R : Nat} {CL : Nat → Int32} (hR : mRo σ n R) (hR3 : R < 4) : mRo (va_up (va_up (va_up (va_up σ 244 (upd (σ 244) R 0)) 247 (upd (σ 247) R 0)) 250 CL) 232 (upd (σ 232) 13 (nI (R + 1)))) n (R + 1) := by
  obtain ⟨h1, h2, h3, h4, h5, h6⟩ := hR
  have hvn : ∀ r, r < R → upd (σ 244) R 0 r = σ 244 r := fun r hr => pk_un (by omega)
  have hen : ∀ r, r < R → upd (σ 247) R 0 r = σ 247 r := fun r hr => pk_un (by omega)
  have f0 : fN 0 = 0 := rfl
  refine ⟨by omega, rfl, fun r hr => ?_, fun r k hr hk => ?_, fun t ht hk => ?_, fun r e hr he => ?_⟩
  · show (∃ v, v ≤ 6 ∧ upd (σ 244) R 0 r = nI v) ∧ ∃ e, e ≤ 6 ∧ upd (σ 247) R 0 r = nI e
    by_cases hrR : r = R
    · subst hrR
      rw [pk_us, pk_us]
      exact ⟨⟨0, by omega, rfl⟩, 0, by omega, rfl⟩
    · rw [hvn r (by omega), hen r (by omega)]
      exact h3 r (by omega)
  · change k < fN (upd (σ 244) R 0 r) at hk
    by_cases hrR : r = R
    · subst hrR
      rw [pk_us, f0] at hk
      omega
    · rw [hvn r (by omega)] at hk
      exact h4 r k (by omega) hk
  · obtain ⟨r, k, r1, k1, k2⟩ := h5 t ht hk
    refine ⟨r, k, by omega, ?_, k2⟩
    show k < fN (upd (σ 244) R 0 r)
    rw [hvn r r1]
    exact k1
  · change e < fN (upd (σ 247) R 0 r) at he
    by_cases hrR : r = R
    · subst hrR
      rw [pk_us, f0] at he
      omega
    · rw [hen r (by omega)] at he
      exact h6 r e (by omega) he
set_option maxRecDepth 100000 in
set_option maxHeartbeats 4000000 in
theorem mp_role (L : Nat) (xs : Nat → Int32) (d : Nat) (σ : kS) (n b R S C : Nat) (kl : List Nat) (h : mI σ n b R S C kl) : kXM kT L xs (d + 1) 162 [.ref 232] σ (fun r σ' => (R = 4 ∧ r = some (.int (-4)) ∧ σ = σ') ∨ (R < 4 ∧ r = some (.int (nI R)) ∧ mAfter σ σ' (R + 1))) := by
  have h2 := h.2.1
  have hR4 := h2.1
  have hr := h2.2.1
  unfold kXM
  repeat refine kX_one rfl ?_
  refine kX_if (fun q => ?_) (fun q => ?_)
  · have q : R ≠ 4 := fun e => qne q (by rw [hr, e]; decide)
    repeat refine kX_one rfl ?_
    refine kX_iastN rfl rfl (by decide) (R) (hr) (by omega) ?_
    repeat refine kX_one rfl ?_
    refine kX_iastN rfl rfl (by decide) (R) (hr) (by omega) ?_
    repeat refine kX_one rfl ?_
    refine kX_bastN rfl rfl (by decide) (R) (hr) (by omega) (Or.inl rfl) ?_
    repeat refine kX_one rfl ?_
    have e1 : σ 232 13 + 1 = nI (R + 1) := by rw [hr]; exact (nI_succ R).symm
    refine kX_st (va_up (va_up (va_up (va_up σ 244 (upd (σ 244) R 0)) 247 (upd (σ 247) R 0)) 250 (upd (σ 250) R 0)) 232 (upd (σ 232) 13 (nI (R + 1)))) ?_ ?_
    · rw [← e1]
      rfl
    refine kX_ret (i := .ireturn) (len := 1) rfl (Or.inr rfl) rfl (Or.inr ⟨by omega, ?_, ?_⟩)
    · show some (Value.int (σ 232 13 + 1 - 1)) = _
      rw [Int32.add_sub_cancel, hr]
    · have hF : roF σ (va_up (va_up (va_up (va_up σ 244 (upd (σ 244) R 0)) 247 (upd (σ 247) R 0)) 250 (upd (σ 250) R 0)) 232 (upd (σ 232) 13 (nI (R + 1)))) := by
        refine ⟨upd (σ 244) R 0, σ 245, σ 246, upd (σ 247) R 0, σ 248, σ 249, upd (σ 250) R 0, σ 239, σ 240, σ 241, nI (R + 1), ?_⟩
        funext c; unfold  va_up; repeat' split
        all_goals first | rfl | omega | (subst_vars; rfl) | (funext j; unfold upd; repeat' split; all_goals first | rfl | omega | (subst_vars; rfl))
      refine ⟨mLow_ro hF, n, b, S, C, kl, mI_ro h (by omega) hF (fun s hs => ?_) (fun t ht => ⟨rfl, rfl⟩) h.1 (mRo_role h2 (by omega)) (fun r hr => ?_)⟩
      · obtain ⟨r, r1, r2, -⟩ := h.2.2.1.2.2 s hs
        rw [r2, fN_nI (by omega)]
        exact ⟨pk_un (by omega), pk_un (by omega), pk_un (by omega), fun k hk => ⟨rfl, rfl, rfl, rfl⟩⟩
      · show _ ≤ fN (upd (σ 244) R 0 r)
        rw [pk_un (by omega)]
        exact Nat.le_refl _
  · have q : R = 4 := nI_inj (hr.symm.trans (qneF q))
    repeat refine kX_one rfl ?_
    refine kX_ret (i := .ireturn) (len := 1) rfl (Or.inr rfl) rfl (Or.inl ⟨q, rfl, rfl⟩)
