/-! alike: role -/
set_option maxRecDepth 100000 in
set_option maxHeartbeats 4000000 in
theorem mg_role (L : Nat) (xs : Nat → Int32) (d : Nat) (σ : kS) (n b R S C : Nat) (kl : List Nat) (h : mI σ n b R S C kl) : kXM kT L xs (d + 1) 162 [.ref 232] σ (fun r σ' => (R = 4 ∧ r = some (.int (-4)) ∧ σ = σ') ∨ (R < 4 ∧ r = some (.int (nI R)) ∧ σ' = va_up (va_up (va_up (va_up σ 244 (upd (σ 244) R 0)) 247 (upd (σ 247) R 0)) 250 (upd (σ 250) R 0)) 232 (upd (σ 232) 13 (nI (R + 1))) ∧ mI σ' n b (R + 1) S C kl)) := by
  have h2 := h.2.1
  have hR4 := h2.1
  have hr := h2.2.1
  unfold kXM
  repeat refine kX_one rfl ?_
  refine kX_if (fun q => ?_) (fun q => ?_)
  · have q : R ≠ 4 := fun e => qne q (by rw [hr, e]; decide)
    repeat refine kX_one rfl ?_
    refine kX_iastN rfl rfl (by decide) (R) (hr) (by omega) ?_
    repeat refine kX_one rfl ?_
    refine kX_iastN rfl rfl (by decide) (R) (hr) (by omega) ?_
    repeat refine kX_one rfl ?_
    refine kX_bastN rfl rfl (by decide) (R) (hr) (by omega) (Or.inl rfl) ?_
    repeat refine kX_one rfl ?_
    have e1 : σ 232 13 + 1 = nI (R + 1) := by rw [hr]; exact (nI_succ R).symm
    refine kX_st (va_up (va_up (va_up (va_up σ 244 (upd (σ 244) R 0)) 247 (upd (σ 247) R 0)) 250 (upd (σ 250) R 0)) 232 (upd (σ 232) 13 (nI (R + 1)))) ?_ ?_
    · rw [← e1]
      rfl
    refine kX_ret (i := .ireturn) (len := 1) rfl (Or.inr rfl) rfl (Or.inr ⟨by omega, ?_, rfl, ?_⟩)
    · show some (Value.int (σ 232 13 + 1 - 1)) = _
      rw [Int32.add_sub_cancel, hr]
    · have hF : roF σ (va_up (va_up (va_up (va_up σ 244 (upd (σ 244) R 0)) 247 (upd (σ 247) R 0)) 250 (upd (σ 250) R 0)) 232 (upd (σ 232) 13 (nI (R + 1)))) := by
        refine ⟨upd (σ 244) R 0, σ 245, σ 246, upd (σ 247) R 0, σ 248, σ 249, upd (σ 250) R 0, σ 239, σ 240, σ 241, nI (R + 1), ?_⟩
        funext c; unfold  va_up; repeat' split
        all_goals first | rfl | omega | (subst_vars; rfl) | (funext j; unfold upd; repeat' split; all_goals first | rfl | omega | (subst_vars; rfl))
      refine mI_ro h (by omega) hF (fun s hs => ?_) (fun t ht => ⟨rfl, rfl⟩) h.1 (mRo_role h2 (by omega)) (fun r hr => ?_)
      · obtain ⟨r, r1, r2, -⟩ := h.2.2.1.2.2 s hs
        rw [r2, fN_nI (by omega)]
        exact ⟨pk_un (by omega), pk_un (by omega), pk_un (by omega), fun k hk => ⟨rfl, rfl, rfl, rfl⟩⟩
      · show _ ≤ fN (upd (σ 244) R 0 r)
        rw [pk_un (by omega)]
        exact Nat.le_refl _
  · have q : R = 4 := nI_inj (hr.symm.trans (qneF q))
    repeat refine kX_one rfl ?_
    refine kX_ret (i := .ireturn) (len := 1) rfl (Or.inr rfl) rfl (Or.inl ⟨q, rfl, rfl⟩)
set_option maxRecDepth 100000 in
set_option maxHeartbeats 4000000 in
theorem kg_role (L : Nat) (xs : Nat → Int32) (d : Nat) (σ : kS) (n R S C : Nat) (h : cJ σ n R S C) : kXM kT L xs (d + 3) 114 [.ref 0] σ (fun r σ' => (R = 4 ∧ r = some (.int (-4)) ∧ σ = σ') ∨ (R < 4 ∧ r = some (.int (nI R)) ∧ cHi σ σ' ∧ cJ σ' n (R + 1) S C ∧ (∀ c, c ≠ 13 → c ≠ 23 + 35 * R → σ' c = σ c) ∧ (∀ j, j ≠ 2 → σ' 13 j = σ 13 j) ∧ σ' (23 + 35 * R) 3 = 0 ∧ σ' (23 + 35 * R) 5 = 0 ∧ σ' (23 + 35 * R) 6 = 0)) := by
  have hR := h.2.1
  have hR4 := hR.1
  unfold kXM
  iterate 3 (refine kX_one rfl ?_)
  refine kX_top (hR.2.1) ?_
  iterate 1 (refine kX_one rfl ?_)
  repeat refine kX_one rfl ?_
  refine kX_if (fun q => ?_) (fun q => ?_)
  · have q := qlt q R 4
    have hnew : kXM kT L xs (d + 2) 7 [.ref 13] σ (fun r σ' => r = some (.int (nI R)) ∧ cHi σ σ' ∧ cJ σ' n (R + 1) S C ∧ (∀ c, c ≠ 13 → c ≠ 23 + 35 * R → σ' c = σ c) ∧ (∀ j, j ≠ 2 → σ' 13 j = σ 13 j) ∧ σ' (23 + 35 * R) 3 = 0 ∧ σ' (23 + 35 * R) 5 = 0 ∧ σ' (23 + 35 * R) 6 = 0) := by
      unfold kXM
      iterate 2 (refine kX_one rfl ?_)
      refine kX_top (hR.2.1) ?_
      iterate 1 (refine kX_one rfl ?_)
      repeat refine kX_one rfl ?_
      refine kX_if (fun q2 => ?_) (fun q2 => ?_)
      · iterate 4 (refine kX_one rfl ?_)
        refine kX_top (hR.2.1) ?_
        refine kX_aaldN rfl (rfl) (by decide) (by decide) (by decide) (R) (by first | rfl | decide) (by omega) (ro_at q) ?_
        have hem : kXM kT L xs (d + 1) 60 [.ref (23 + 35 * R)] σ (fun r σ' => r = none ∧ σ' = va_up σ (23 + 35 * R) (upd (upd (upd (σ (23 + 35 * R)) 3 0) 5 0) 6 0)) := by
          unfold kXM
          iterate 2 (refine kX_one rfl ?_)
          refine kX_putN rfl rfl (kT_ro q) rfl (rfl) rfl ?_
          iterate 2 (refine kX_one rfl ?_)
          refine kX_putN rfl rfl (kT_ro q) rfl (rfl) rfl ?_
          iterate 2 (refine kX_one rfl ?_)
          refine kX_putN rfl rfl (kT_ro q) rfl (rfl) rfl ?_
          refine kX_ret (i := .return_) (len := 1) rfl (Or.inr rfl) rfl ⟨rfl, ?_⟩
          rw [kup_up, kup_up]
          simp only [va_up, if_true]
          rfl
        refine kX_cal (hem) rfl (Or.inr rfl) rfl (jcall_v rfl rfl rfl (kT_ro q) rfl rfl) rfl (fun r1 σ1 q1 => ?_)
        obtain ⟨rfl, rfl⟩ := q1
        have e13 : va_up σ (23 + 35 * R) (upd (upd (upd (σ (23 + 35 * R)) 3 0) 5 0) 6 0) 13 = σ 13 := by
          unfold va_up
          rw [if_neg (by omega)]
        have hrc : va_up σ (23 + 35 * R) (upd (upd (upd (σ (23 + 35 * R)) 3 0) 5 0) 6 0) 13 2 = nI R := by
          rw [e13]
          exact hR.2.1
        have hown : va_up σ (23 + 35 * R) (upd (upd (upd (σ (23 + 35 * R)) 3 0) 5 0) 6 0) (23 + 35 * R) = upd (upd (upd (σ (23 + 35 * R)) 3 0) 5 0) 6 0 := by
          unfold va_up
          rw [if_pos rfl]
        have hoth : ∀ c, c ≠ 23 + 35 * R → va_up σ (23 + 35 * R) (upd (upd (upd (σ (23 + 35 * R)) 3 0) 5 0) 6 0) c = σ c := fun c hc => by
          unfold va_up
          rw [if_neg hc]
        generalize va_up σ (23 + 35 * R) (upd (upd (upd (σ (23 + 35 * R)) 3 0) 5 0) 6 0) = ρ at *
        iterate 3 (refine kX_one rfl ?_)
        refine kX_top (hrc) ?_
        iterate 3 (refine kX_one rfl ?_)
        refine kX_st (va_up ρ 13 (upd (ρ 13) 2 (nI (R + 1)))) (by rw [← nI_1]; rfl) ?_
        iterate 2 (refine kX_one rfl ?_)
        have htop : va_up ρ 13 (upd (ρ 13) 2 (nI (R + 1))) 13 2 = nI (R + 1) := rfl
        refine kX_top (htop) ?_
        iterate 2 (refine kX_one rfl ?_)
        have hoth2 : ∀ c, c ≠ 13 → va_up ρ 13 (upd (ρ 13) 2 (nI (R + 1))) c = ρ c := fun c hc => by
          unfold va_up
          rw [if_neg hc]
        refine kX_ret (i := .ireturn) (len := 1) rfl (Or.inr rfl) rfl ⟨congrArg (fun z => some (Value.int z)) (nI_pred R), fun c hc => ?_, cJ_lo h (fun c hc => ?_) (fun j hj => ?_) ⟨by omega, rfl, fun r hr => ?_⟩ (by omega), fun c c1 c2 => by rw [hoth2 c c1, hoth c c2], fun j hj => ?_, by rw [hoth2 _ (by omega), hown]; rfl, by rw [hoth2 _ (by omega), hown]; rfl, by rw [hoth2 _ (by omega), hown]; rfl⟩
        · rw [hoth2 c (by omega), hoth c (by omega)]
        · rw [hoth2 c (by omega), hoth c (by omega)]
        · show upd (ρ 13) 2 (nI (R + 1)) j = σ 13 j
          rw [pk_un hj, e13]
        · by_cases e : r = R
          · subst e
            refine ⟨0, 0, by omega, by omega, ?_, ?_, fun k hk => absurd hk (Nat.not_lt_zero k), fun k hk => absurd hk (Nat.not_lt_zero k)⟩
            · rw [hoth2 _ (by omega), hown]
              rfl
            · rw [hoth2 _ (by omega), hown]
              rfl
          · exact cR1_eq (fun c c1 c2 => by rw [hoth2 c (by omega), hoth c (by omega)]) (hR.2.2 r (by omega))
        · show upd (ρ 13) 2 (nI (R + 1)) j = σ 13 j
          rw [pk_un hj, e13]
      · have q2 := qltF q2 R 4
        omega
    iterate 2 (refine kX_one rfl ?_)
    refine kX_cal hnew rfl (Or.inr rfl) rfl rfl rfl (fun r1 σ1 q1 => ?_)
    obtain ⟨rfl, hA⟩ := q1
    refine kX_ret (i := .ireturn) (len := 1) rfl (Or.inr rfl) rfl (Or.inr ⟨q, rfl, hA⟩)
  · have q := qltF q R 4
    repeat refine kX_one rfl ?_
    refine kX_ret (i := .ireturn) (len := 1) rfl (Or.inr rfl) rfl (Or.inl ⟨by omega, rfl, rfl⟩)
theorem aF_R {ω : kS} {n n' R R' S : Nat} (h : aF ω n R S) : aF ω n' R' S := h
theorem bo_role (L : Nat) (xs : Nat → Int32) (d d' m : Nat) (σ : kS) (h : bJ m σ) : kXM kT L xs (d + 3) 114 [.ref 0] σ (fun r τ => ∃ z, r = some (.int z) ∧ kXM kT L xs (d' + 1) 162 [.ref 232] τ (fun r' ω => r' = some (.int z) ∧ bJ m ω)) := by
  have hb := h
  obtain ⟨n, b, R, S, C, kl, h⟩ := h
  refine kXM_mono (kg_role L xs d σ n R S C h.2.1) (fun r τ q => ?_)
  rcases q with ⟨hR, rfl, rfl⟩ | ⟨hR, rfl, q1, q2, q3, q4, q5, q6, q7⟩
  · refine ⟨_, rfl, kXM_mono (mg_role L xs d' σ n b R S C kl h.1) (fun r ω p => ?_)⟩
    rcases p with ⟨-, rfl, rfl⟩ | ⟨p, -⟩
    · exact ⟨rfl, hb⟩
    · omega
  · refine ⟨_, rfl, kXM_mono (mg_role L xs d' τ n b R S C kl (aJ_hi h q1)) (fun r ω p => ?_)⟩
    rcases p with ⟨p, -⟩ | ⟨-, rfl, hω, hI⟩
    · omega
    refine ⟨rfl, ?_⟩
    obtain ⟨i, j, tt, ar, s, c, k, u, f, mm⟩ := h
    have lo : ∀ c, c < 232 → ω c = τ c := fun c hc => by rw [hω, up_ne (by omega), up_ne (by omega), up_ne (by omega), up_ne (by omega)]
    have el : ∀ c, c < 232 → c ≠ 13 → c ≠ 23 + 35 * R → ω c = σ c := fun c c0 c1 c2 => (lo c c0).trans (q3 c c1 c2)
    have er : ∀ c, 232 < c → c ≠ 244 → c ≠ 247 → c ≠ 250 → ω c = σ c := fun c c0 c1 c2 c3 => by rw [hω, up_ne (by omega), up_ne c3, up_ne c2, up_ne c1, q1 c (by omega)]
    have hr' : ∀ l : List Nat, l.all (fun c => decide (232 < c ∧ c ≠ 244 ∧ c ≠ 247 ∧ c ≠ 250)) = true → eqC σ ω l := eqC_of (fun c q => er c q.1 q.2.1 q.2.2.1 q.2.2.2)
    have eo : ∀ j, j ≠ 13 → ω 232 j = σ 232 j := fun j hj => by
      rw [hω]
      show upd (τ 232) 13 (nI (R + 1)) j = _
      rw [pk_un hj, q1 232 (by decide)]
    have ev : ω 244 = upd (σ 244) R 0 := by rw [hω]; show upd (τ 244) R 0 = _; rw [q1 _ (by decide)]
    have ee : ω 247 = upd (σ 247) R 0 := by rw [hω]; show upd (τ 247) R 0 = _; rw [q1 _ (by decide)]
    have ec : ω 250 = upd (σ 250) R 0 := by rw [hω]; show upd (τ 250) R 0 = _; rw [q1 _ (by decide)]
    have hO : ∀ r, r < R → roO σ ω r := fun r hr => by
      unfold roO
      rw [ev, ee, ec, er 245 (by decide) (by decide) (by decide) (by decide), er 246 (by decide) (by decide) (by decide) (by decide), er 248 (by decide) (by decide) (by decide) (by decide), er 249 (by decide) (by decide) (by decide) (by decide), pk_un (by omega), pk_un (by omega), pk_un (by omega)]
      exact ⟨rfl, rfl, rfl, fun k _ => ⟨rfl, rfl, rfl, rfl⟩⟩
    have hF : ∀ r, r < R → fR σ ω r n := fun r hr => ⟨hO r hr, fun u _ => by
      rw [er 233 (by decide) (by decide) (by decide) (by decide), er 234 (by decide) (by decide) (by decide) (by decide), er 235 (by decide) (by decide) (by decide) (by decide), er 240 (by decide) (by decide) (by decide) (by decide), er 241 (by decide) (by decide) (by decide) (by decide)]
      exact ⟨rfl, rfl, rfl, rfl, rfl⟩, fun c c1 c2 => el c (by omega) (by omega) (by omega)⟩
    have hsr : ∀ s, s < S → fN (σ 255 s) < R := fun s hs => by
      obtain ⟨r, r1, r2, -⟩ := i.2.2.1.2.2 s hs
      rw [r2, fN_nI (by omega)]
      exact r1
    refine ⟨n, b, R + 1, S, C, kl, hI, cJ_low lo q2, aT_c (fun c c1 c2 => el c (by omega) (by omega) (by omega)) (hr' _ (by decide)) tt, fun r hr => ?_, fun s' hs => ?_, aC_c i.2.2.2.2.1 (fun c c1 c2 => el c (by omega) (by omega) (by omega)) (hr' _ (by decide)) c, aK_eq ?_ (el _ (by decide) (by decide) (by omega)) k, aU_c (fun c c1 c2 => el c (by omega) (by omega) (by omega)) (fun c c1 c2 => el c (by omega) (by omega) (by omega)) (el _ (by decide) (by decide) (by omega)) (hr' _ (by decide)) (eo _ (by decide)) (eo _ (by decide)) u, aF_R (n := n) (R := R) (aF_fr i.1 i.2.1 i.2.2.1 (el _ (by decide) (by decide) (by omega)) (el _ (by decide) (by decide) (by omega)) (el _ (by decide) (by decide) (by omega)) (el _ (by decide) (by decide) (by omega)) ⟨eo _ (by decide), eo _ (by decide), eo _ (by decide), eo _ (by decide)⟩ (hr' [288] (by decide) _ (by decide)) (hr' [289] (by decide) _ (by decide)) (hr' [285] (by decide) _ (by decide)) (fun s _ => by rw [hr' [255] (by decide) _ (by decide)]) (fun s hs => hF _ (hsr s hs)) f), aM_eq (Nat.le_refl _) (fun c c1 c2 => el c (by omega) (by omega) (by omega)) mm⟩
    · by_cases e : r = R
      · subst e
        unfold aR1
        rw [lo _ (by omega), q5, q6, ev, ee, ec, pk_us, pk_us, pk_us]
        refine ⟨rfl, rfl, ?_, fun k hk => absurd hk (Nat.not_lt_zero k), fun e he => absurd he (Nat.not_lt_zero e)⟩
        rw [q7]
      · exact fR_aR1 i.1 i.2.1 (hF r (by omega)) (by omega) (ar r (by omega))
    · refine fS_aS1 i.1.1 i.2.1 i.2.2.1 hs ⟨by rw [hr' [255] (by decide) _ (by decide)], fun k _ => by rw [hr' [256] (by decide) _ (by decide)], hO _ (hsr s' hs), fun u _ => by rw [hr' [238] (by decide) _ (by decide)], by rw [el _ (by decide) (by decide) (by omega)], by rw [el _ (by decide) (by decide) (by omega)], fun k _ => by rw [el _ (by decide) (by decide) (by omega)]⟩ (s s' hs)
    · rw [lo 13 (by decide)]
      exact q4 _ (by decide)
