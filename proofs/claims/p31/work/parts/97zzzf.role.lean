section
/-! alike: role -/
set_option maxRecDepth 100000 in
set_option maxHeartbeats 4000000 in
theorem mg_role (L : Nat) (xs : Nat → Int32) (d : Nat) (σ : kS) (n b R S C : Nat) (kl : List Nat) (h : mI σ n b R S C kl) : kXM kT L xs (d + 1) 162 [.ref 232] σ (fun r σ' => (R = 4 ∧ r = some (.int (-4)) ∧ σ = σ') ∨ (R < 4 ∧ r = some (.int (nI R)) ∧ σ' = va_up (va_up (va_up (va_up σ 244 (upd (σ 244) R 0)) 247 (upd (σ 247) R 0)) 250 (upd (σ 250) R 0)) 232 (upd (σ 232) 13 (nI (R + 1))) ∧ mI σ' n b (R + 1) S C kl)) := by
  have h2 := h.2.1
  have hR4 := h2.1
  have hr := h2.2.1
  unfold kXM
  repeat refine kX_one rfl ?_
  refine kX_if (fun q => ?_) (fun q => ?_)
  · have q : R ≠ 4 := fun e => qne q (by rw [hr, e]; decide)
    repeat refine kX_one rfl ?_
    refine kX_iastN rfl rfl (by decide) (R) (hr) (by omega) ?_
    repeat refine kX_one rfl ?_
    refine kX_iastN rfl rfl (by decide) (R) (hr) (by omega) ?_
    repeat refine kX_one rfl ?_
    refine kX_bastN rfl rfl (by decide) (R) (hr) (by omega) (Or.inl rfl) ?_
    repeat refine kX_one rfl ?_
    have e1 : σ 232 13 + 1 = nI (R + 1) := by rw [hr]; exact (nI_succ R).symm
    refine kX_st (va_up (va_up (va_up (va_up σ 244 (upd (σ 244) R 0)) 247 (upd (σ 247) R 0)) 250 (upd (σ 250) R 0)) 232 (upd (σ 232) 13 (nI (R + 1)))) ?_ ?_
    · rw [← e1]
      rfl
    refine kX_ret (i := .ireturn) (len := 1) rfl (Or.inr rfl) rfl (Or.inr ⟨by omega, ?_, rfl, ?_⟩)
    · show some (Value.int (σ 232 13 + 1 - 1)) = _
      rw [Int32.add_sub_cancel, hr]
    · have hF : roF σ (va_up (va_up (va_up (va_up σ 244 (upd (σ 244) R 0)) 247 (upd (σ 247) R 0)) 250 (upd (σ 250) R 0)) 232 (upd (σ 232) 13 (nI (R + 1)))) := by
        refine ⟨upd (σ 244) R 0, σ 245, σ 246, upd (σ 247) R 0, σ 248, σ 249, upd (σ 250) R 0, σ 239, σ 240, σ 241, nI (R + 1), ?_⟩
        funext c; first
          | ((repeat (refine va_case ?_ ?_; (· (intro h; first | (subst h; rfl) | (unfold va_up; repeat' split; (all_goals first | rfl | omega | (subst_vars; rfl) | (funext j; unfold upd; repeat' split; all_goals first | rfl | omega | (subst_vars; rfl)))))); intro h)); (repeat (refine va_case2 ?_ ?_; (· (intro h; first | exact absurd h (by assumption) | (subst h; rfl) | (subst h; funext j; unfold upd; repeat' split; (all_goals first | rfl | omega | (subst_vars; rfl))))); intro h)); rfl)
          | (unfold va_up; repeat' split
             all_goals first | rfl | omega | (subst_vars; rfl) | (funext j; unfold upd; repeat' split; all_goals first | rfl | omega | (subst_vars; rfl)))
      refine mI_ro h (by omega) hF (fun s hs => ?_) (fun t ht => ⟨rfl, rfl⟩) h.1 (mRo_role h2 (by omega)) (fun r hr => ?_)
      · obtain ⟨r, r1, r2, -⟩ := h.2.2.1.2.2 s hs
        rw [r2, fN_nI (by omega)]
        exact ⟨pk_un (by omega), pk_un (by omega), pk_un (by omega), fun k hk => ⟨rfl, rfl, rfl, rfl⟩⟩
      · show _ ≤ fN (upd (σ 244) R 0 r)
        rw [pk_un (by omega)]
        exact Nat.le_refl _
  · have q : R = 4 := nI_inj (hr.symm.trans (qneF q))
    repeat refine kX_one rfl ?_
    refine kX_ret (i := .ireturn) (len := 1) rfl (Or.inr rfl) rfl (Or.inl ⟨q, rfl, rfl⟩)
set_option maxRecDepth 100000 in
set_option maxHeartbeats 4000000 in
theorem kg_role (L : Nat) (xs : Nat → Int32) (d : Nat) (σ : kS) (n R S C : Nat) (h : cJ σ n R S C) : kXM kT L xs (d + 3) 114 [.ref 0] σ (fun r σ' => (R = 4 ∧ r = some (.int (-4)) ∧ σ = σ') ∨ (R < 4 ∧ r = some (.int (nI R)) ∧ cHi σ σ' ∧ cJ σ' n (R + 1) S C ∧ (∀ c, c ≠ 13 → c ≠ 23 + 35 * R → σ' c = σ c) ∧ (∀ j, j ≠ 2 → σ' 13 j = σ 13 j) ∧ σ' (23 + 35 * R) 3 = 0 ∧ σ' (23 + 35 * R) 5 = 0 ∧ σ' (23 + 35 * R) 6 = 0)) := by
  have hR := h.2.1
  have hR4 := hR.1
  unfold kXM
  iterate 3 (refine kX_one rfl ?_)
  refine kX_top (hR.2.1) ?_
  iterate 1 (refine kX_one rfl ?_)
  repeat refine kX_one rfl ?_
  refine kX_if (fun q => ?_) (fun q => ?_)
  · have q := qlt q R 4
    have hnew : kXM kT L xs (d + 2) 7 [.ref 13] σ (fun r σ' => r = some (.int (nI R)) ∧ cHi σ σ' ∧ cJ σ' n (R + 1) S C ∧ (∀ c, c ≠ 13 → c ≠ 23 + 35 * R → σ' c = σ c) ∧ (∀ j, j ≠ 2 → σ' 13 j = σ 13 j) ∧ σ' (23 + 35 * R) 3 = 0 ∧ σ' (23 + 35 * R) 5 = 0 ∧ σ' (23 + 35 * R) 6 = 0) := by
      unfold kXM
      iterate 2 (refine kX_one rfl ?_)
      refine kX_top (hR.2.1) ?_
      iterate 1 (refine kX_one rfl ?_)
      repeat refine kX_one rfl ?_
      refine kX_if (fun q2 => ?_) (fun q2 => ?_)
      · iterate 4 (refine kX_one rfl ?_)
        refine kX_top (hR.2.1) ?_
        refine kX_aaldN rfl (rfl) (by decide) (by decide) (by decide) (R) (by first | rfl | decide) (by omega) (ro_at q) ?_
        have hem : kXM kT L xs (d + 1) 60 [.ref (23 + 35 * R)] σ (fun r σ' => r = none ∧ σ' = va_up σ (23 + 35 * R) (upd (upd (upd (σ (23 + 35 * R)) 3 0) 5 0) 6 0)) := by
          unfold kXM
          iterate 2 (refine kX_one rfl ?_)
          refine kX_putN rfl rfl (kT_ro q) rfl (rfl) rfl ?_
          iterate 2 (refine kX_one rfl ?_)
          refine kX_putN rfl rfl (kT_ro q) rfl (rfl) rfl ?_
          iterate 2 (refine kX_one rfl ?_)
          refine kX_putN rfl rfl (kT_ro q) rfl (rfl) rfl ?_
          refine kX_ret (i := .return_) (len := 1) rfl (Or.inr rfl) rfl ⟨rfl, ?_⟩
          rw [kup_up, kup_up]
          simp only [va_up, if_true]
          rfl
        refine kX_cal (hem) rfl (Or.inr rfl) rfl (jcall_v rfl rfl rfl (kT_ro q) rfl rfl) rfl (fun r1 σ1 q1 => ?_)
        obtain ⟨rfl, rfl⟩ := q1
        have e13 : va_up σ (23 + 35 * R) (upd (upd (upd (σ (23 + 35 * R)) 3 0) 5 0) 6 0) 13 = σ 13 := by
          unfold va_up
          rw [if_neg (by omega)]
        have hrc : va_up σ (23 + 35 * R) (upd (upd (upd (σ (23 + 35 * R)) 3 0) 5 0) 6 0) 13 2 = nI R := by
          rw [e13]
          exact hR.2.1
        have hown : va_up σ (23 + 35 * R) (upd (upd (upd (σ (23 + 35 * R)) 3 0) 5 0) 6 0) (23 + 35 * R) = upd (upd (upd (σ (23 + 35 * R)) 3 0) 5 0) 6 0 := by
          unfold va_up
          rw [if_pos rfl]
        have hoth : ∀ c, c ≠ 23 + 35 * R → va_up σ (23 + 35 * R) (upd (upd (upd (σ (23 + 35 * R)) 3 0) 5 0) 6 0) c = σ c := fun c hc => by
          unfold va_up
          rw [if_neg hc]
        generalize va_up σ (23 + 35 * R) (upd (upd (upd (σ (23 + 35 * R)) 3 0) 5 0) 6 0) = ρ at *
        iterate 3 (refine kX_one rfl ?_)
        refine kX_top (hrc) ?_
        iterate 3 (refine kX_one rfl ?_)
        refine kX_st (va_up ρ 13 (upd (ρ 13) 2 (nI (R + 1)))) (by rw [← nI_1]; rfl) ?_
        iterate 2 (refine kX_one rfl ?_)
        have htop : va_up ρ 13 (upd (ρ 13) 2 (nI (R + 1))) 13 2 = nI (R + 1) := rfl
        refine kX_top (htop) ?_
        iterate 2 (refine kX_one rfl ?_)
        have hoth2 : ∀ c, c ≠ 13 → va_up ρ 13 (upd (ρ 13) 2 (nI (R + 1))) c = ρ c := fun c hc => by
          unfold va_up
          rw [if_neg hc]
        refine kX_ret (i := .ireturn) (len := 1) rfl (Or.inr rfl) rfl ⟨congrArg (fun z => some (Value.int z)) (nI_pred R), fun c hc => ?_, cJ_lo h (fun c hc => ?_) (fun j hj => ?_) ⟨by omega, rfl, fun r hr => ?_⟩ (by omega), fun c c1 c2 => by rw [hoth2 c c1, hoth c c2], fun j hj => ?_, by rw [hoth2 _ (by omega), hown]; rfl, by rw [hoth2 _ (by omega), hown]; rfl, by rw [hoth2 _ (by omega), hown]; rfl⟩
        · rw [hoth2 c (by omega), hoth c (by omega)]
        · rw [hoth2 c (by omega), hoth c (by omega)]
        · show upd (ρ 13) 2 (nI (R + 1)) j = σ 13 j
          rw [pk_un hj, e13]
        · by_cases e : r = R
          · subst e
            refine ⟨0, 0, by omega, by omega, ?_, ?_, fun k hk => absurd hk (Nat.not_lt_zero k), fun k hk => absurd hk (Nat.not_lt_zero k)⟩
            · rw [hoth2 _ (by omega), hown]
              rfl
            · rw [hoth2 _ (by omega), hown]
              rfl
          · exact cR1_eq (fun c c1 c2 => by rw [hoth2 c (by omega), hoth c (by omega)]) (hR.2.2 r (by omega))
        · show upd (ρ 13) 2 (nI (R + 1)) j = σ 13 j
          rw [pk_un hj, e13]
      · have q2 := qltF q2 R 4
        omega
    iterate 2 (refine kX_one rfl ?_)
    refine kX_cal hnew rfl (Or.inr rfl) rfl rfl rfl (fun r1 σ1 q1 => ?_)
    obtain ⟨rfl, hA⟩ := q1
    refine kX_ret (i := .ireturn) (len := 1) rfl (Or.inr rfl) rfl (Or.inr ⟨q, rfl, hA⟩)
  · have q := qltF q R 4
    repeat refine kX_one rfl ?_
    refine kX_ret (i := .ireturn) (len := 1) rfl (Or.inr rfl) rfl (Or.inl ⟨by omega, rfl, rfl⟩)
theorem aF_R {ω : kS} {n n' R R' S : Nat} (h : aF ω n R S) : aF ω n' R' S := h
theorem bo_role (L : Nat) (xs : Nat → Int32) (d d' m : Nat) (σ : kS) (h : bJ m σ) : kXM kT L xs (d + 3) 114 [.ref 0] σ (fun r τ => ∃ z, r = some (.int z) ∧ kXM kT L xs (d' + 1) 162 [.ref 232] τ (fun r' ω => r' = some (.int z) ∧ bJ m ω)) := by
  have hb := h
  obtain ⟨n, b, R, S, C, kl, h⟩ := h
  refine kXM_mono (kg_role L xs d σ n R S C h.2.1) (fun r τ q => ?_)
  rcases q with ⟨hR, rfl, rfl⟩ | ⟨hR, rfl, q1, q2, q3, q4, q5, q6, q7⟩
  · refine ⟨_, rfl, kXM_mono (mg_role L xs d' σ n b R S C kl h.1) (fun r ω p => ?_)⟩
    rcases p with ⟨-, rfl, rfl⟩ | ⟨p, -⟩
    · exact ⟨rfl, hb⟩
    · omega
  · refine ⟨_, rfl, kXM_mono (mg_role L xs d' τ n b R S C kl (aJ_hi h q1)) (fun r ω p => ?_)⟩
    rcases p with ⟨p, -⟩ | ⟨-, rfl, hω, hI⟩
    · omega
    refine ⟨rfl, ?_⟩
    obtain ⟨i, j, tt, ar, s, c, k, u, f, mm⟩ := h
    have lo : ∀ c, c < 232 → ω c = τ c := fun c hc => by rw [hω, up_ne (by omega), up_ne (by omega), up_ne (by omega), up_ne (by omega)]
    have el : ∀ c, c < 232 → c ≠ 13 → c ≠ 23 + 35 * R → ω c = σ c := fun c c0 c1 c2 => (lo c c0).trans (q3 c c1 c2)
    have er : ∀ c, 232 < c → c ≠ 244 → c ≠ 247 → c ≠ 250 → ω c = σ c := fun c c0 c1 c2 c3 => by rw [hω, up_ne (by omega), up_ne c3, up_ne c2, up_ne c1, q1 c (by omega)]
    have hr' : ∀ l : List Nat, l.all (fun c => decide (232 < c ∧ c ≠ 244 ∧ c ≠ 247 ∧ c ≠ 250)) = true → eqC σ ω l := eqC_of (fun c q => er c q.1 q.2.1 q.2.2.1 q.2.2.2)
    have eo : ∀ j, j ≠ 13 → ω 232 j = σ 232 j := fun j hj => by
      rw [hω]
      show upd (τ 232) 13 (nI (R + 1)) j = _
      rw [pk_un hj, q1 232 (by decide)]
    have ev : ω 244 = upd (σ 244) R 0 := by rw [hω]; show upd (τ 244) R 0 = _; rw [q1 _ (by decide)]
    have ee : ω 247 = upd (σ 247) R 0 := by rw [hω]; show upd (τ 247) R 0 = _; rw [q1 _ (by decide)]
    have ec : ω 250 = upd (σ 250) R 0 := by rw [hω]; show upd (τ 250) R 0 = _; rw [q1 _ (by decide)]
    have hO : ∀ r, r < R → roO σ ω r := fun r hr => by
      unfold roO
      rw [ev, ee, ec, er 245 (by decide) (by decide) (by decide) (by decide), er 246 (by decide) (by decide) (by decide) (by decide), er 248 (by decide) (by decide) (by decide) (by decide), er 249 (by decide) (by decide) (by decide) (by decide), pk_un (by omega), pk_un (by omega), pk_un (by omega)]
      exact ⟨rfl, rfl, rfl, fun k _ => ⟨rfl, rfl, rfl, rfl⟩⟩
    have hF : ∀ r, r < R → fR σ ω r n := fun r hr => ⟨hO r hr, fun u _ => by
      rw [er 233 (by decide) (by decide) (by decide) (by decide), er 234 (by decide) (by decide) (by decide) (by decide), er 235 (by decide) (by decide) (by decide) (by decide), er 240 (by decide) (by decide) (by decide) (by decide), er 241 (by decide) (by decide) (by decide) (by decide)]
      exact ⟨rfl, rfl, rfl, rfl, rfl⟩, fun c c1 c2 => el c (by omega) (by omega) (by omega)⟩
    have hsr : ∀ s, s < S → fN (σ 255 s) < R := fun s hs => by
      obtain ⟨r, r1, r2, -⟩ := i.2.2.1.2.2 s hs
      rw [r2, fN_nI (by omega)]
      exact r1
    refine ⟨n, b, R + 1, S, C, kl, hI, cJ_low lo q2, aT_c (fun c c1 c2 => el c (by omega) (by omega) (by omega)) (hr' _ (by decide)) tt, fun r hr => ?_, fun s' hs => ?_, aC_c i.2.2.2.2.1 (fun c c1 c2 => el c (by omega) (by omega) (by omega)) (hr' _ (by decide)) c, aK_eq ?_ (el _ (by decide) (by decide) (by omega)) k, aU_c (fun c c1 c2 => el c (by omega) (by omega) (by omega)) (fun c c1 c2 => el c (by omega) (by omega) (by omega)) (el _ (by decide) (by decide) (by omega)) (hr' _ (by decide)) (eo _ (by decide)) (eo _ (by decide)) u, aF_R (n := n) (R := R) (aF_fr i.1 i.2.1 i.2.2.1 (el _ (by decide) (by decide) (by omega)) (el _ (by decide) (by decide) (by omega)) (el _ (by decide) (by decide) (by omega)) (el _ (by decide) (by decide) (by omega)) ⟨eo _ (by decide), eo _ (by decide), eo _ (by decide), eo _ (by decide)⟩ (hr' [288] (by decide) _ (by decide)) (hr' [289] (by decide) _ (by decide)) (hr' [285] (by decide) _ (by decide)) (fun s _ => by rw [hr' [255] (by decide) _ (by decide)]) (fun s hs => hF _ (hsr s hs)) f), aM_eq (Nat.le_refl _) (fun c c1 c2 => el c (by omega) (by omega) (by omega)) mm⟩
    · by_cases e : r = R
      · subst e
        unfold aR1
        rw [lo _ (by omega), q5, q6, ev, ee, ec, pk_us, pk_us, pk_us]
        refine ⟨rfl, rfl, ?_, fun k hk => absurd hk (Nat.not_lt_zero k), fun e he => absurd he (Nat.not_lt_zero e)⟩
        rw [q7]
      · exact fR_aR1 i.1 i.2.1 (hF r (by omega)) (by omega) (ar r (by omega))
    · refine fS_aS1 i.1.1 i.2.1 i.2.2.1 hs ⟨by rw [hr' [255] (by decide) _ (by decide)], fun k _ => by rw [hr' [256] (by decide) _ (by decide)], hO _ (hsr s' hs), fun u _ => by rw [hr' [238] (by decide) _ (by decide)], by rw [el _ (by decide) (by decide) (by omega)], by rw [el _ (by decide) (by decide) (by omega)], fun k _ => by rw [el _ (by decide) (by decide) (by omega)]⟩ (s s' hs)
    · rw [lo 13 (by decide)]
      exact q4 _ (by decide)
end
section
/-! alike: variable -/
def mayS (y z : Int32) : Prop := (y = nI 0 ∧ z = nI 0) ∨ (y = nI 1 ∧ (z = nI 1 ∨ z = nI 2)) ∨ (y = nI 2 ∧ isN z 4)
set_option maxRecDepth 100000 in
set_option maxHeartbeats 4000000 in
theorem mg_variable (L : Nat) (xs : Nat → Int32) (d : Nat) (σ : kS) (n b R S C : Nat) (kl : List Nat) (x y z : Int32) (Q : Option Value → kS → Prop) (h : mI σ n b R S C kl) (hU : ¬ isN x R → Q (some (.int (-1))) σ) (hO : isN x R → ¬ mayS y z → Q (some (.int (-2))) σ) (hS : ∀ r, r < R → x = nI r → mayS y z → σ 250 r ≠ 0 → Q (some (.int (-3))) σ) (hF : ∀ r, r < R → x = nI r → mayS y z → σ 250 r = 0 → (σ 244 r = nI 6 ∨ n = 200) → Q (some (.int (-4))) σ)
    (hN : ∀ r v as so σ1, r < R → x = nI r → mayS y z → σ 250 r = 0 → σ 244 r = nI v → v < 6 → n < 200 → y = nI as → z = nI so → as ≤ 2 → so ≤ 3 → mNw σ σ1 n 3 (-1) (-1) → mI (vaS σ1 n r v (nI so) (nI as)) (n + 1) 200 R S C kl → Q (some (.int (nI n))) (vaS σ1 n r v (nI so) (nI as))) : kXM kT L xs (d + 5) 163 [.ref 232, .int x, .int y, .int z] σ Q := by
  have h1 := h.1
  have h2 := h.2.1
  have h3 := h.2.2.1
  have hn := h1.1
  have hR4 := h2.1
  unfold kXM
  repeat refine kX_one rfl ?_
  refine kX_cal (mr_isRole L xs (d + 3) σ R x h2.2.1 (by omega)) rfl (Or.inr rfl) rfl rfl rfl (fun r1 σ1 q1 => ?_)
  obtain ⟨rfl, rfl⟩ := q1
  repeat refine kX_one rfl ?_
  refine kX_if (fun q => ?_) (fun q => ?_)
  · obtain ⟨r, hr, rfl⟩ := isB_ne.mp (qne q)
    obtain ⟨⟨v, hv6, hv⟩, ev, he6, hev⟩ := h2.2.2.1 r hr
    have hfv : fN (σ 244 r) = v := by rw [hv]; exact fN_nI (by omega)
    have key : ∀ as so, y = nI as → z = nI so → as ≤ 2 → so ≤ 3 → (as = 0 → so = 0) → (as = 1 → so = 1 ∨ so = 2) → kX kT L xs (d + 5) 163 52 [(0, .ref 232), (1, .int (nI r)), (2, .int (nI as)), (3, .int (nI so))] [] σ Q := by
      intro as so ey ez has hso h0 h01
      have hM : mayS y z := by
        rw [ey, ez]
        have : as = 0 ∨ as = 1 ∨ as = 2 := by omega
        rcases this with rfl | rfl | rfl
        · rw [h0 rfl]
          exact Or.inl ⟨rfl, rfl⟩
        · rcases h01 rfl with rfl | rfl
          · exact Or.inr (Or.inl ⟨rfl, Or.inl rfl⟩)
          · exact Or.inr (Or.inl ⟨rfl, Or.inr rfl⟩)
        · exact Or.inr (Or.inr ⟨rfl, so, by omega, rfl⟩)
      repeat refine kX_one rfl ?_
      refine kX_baldN rfl rfl (by decide) (r) (by first | rfl | decide) (by omega) ?_
      repeat refine kX_one rfl ?_
      refine kX_if (fun q => ?_) (fun q => ?_)
      · have hcl : σ 250 r = 0 := qeq q
        repeat refine kX_one rfl ?_
        refine kX_ialdV rfl rfl (by decide) (r) (by first | rfl | decide) (by omega) (hv) ?_
        repeat refine kX_one rfl ?_
        refine kX_if (fun q => ?_) (fun q => ?_)
        · have q : v = 6 := nI_inj (qeq q)
          repeat refine kX_one rfl ?_
          refine kX_ret (i := .ireturn) (len := 1) rfl (Or.inr rfl) rfl (hF r hr rfl hM hcl (Or.inl (by rw [hv, q])))
        · have hv6' : v ≠ 6 := fun e => qeqF q (by rw [e]; rfl)
          repeat refine kX_one rfl ?_
          refine kX_if (fun q => ?_) (fun q => ?_)
          · have hn200 : n ≠ 200 := fun e => qne q (by rw [h1.2.2.2.1, e]; decide)
            repeat refine kX_one rfl ?_
            refine kX_cal (mr_last L xs (d + 1) σ n b 3 (-1) (-1) 0 0 h1 (by omega) (Or.inl ⟨by omega, rfl, rfl⟩) (by omega) (by omega) (by omega) (show nI 1 ≤ nI 24 by decide)) rfl (Or.inr rfl) rfl rfl rfl (fun r1 σ1 q1 => ?_)
            obtain ⟨rfl, hnew⟩ := q1
            have hG := mGr_new hnew
            have hr0 := mNw_rit hnew
            have hT1 : mTb σ1 (n + 1) 200 := by
              obtain ⟨_, _, _, _, _, _, q⟩ := hnew
              exact q
            have hk3 : σ1 233 n = nI 3 := by
              obtain ⟨_, _, _, _, _, rfl, _⟩ := hnew
              exact pk_us
            have c := fun c (hc : c ∉ rowC) => hG.1 c hc
            have hv1 : σ1 244 r = nI v := by rw [c 244 (by decide)]; exact hv
            repeat refine kX_one rfl ?_
            refine kX_ialdV rfl rfl (by decide) (r) (by first | rfl | decide) (by omega) (hv1) ?_
            repeat refine kX_one rfl ?_
            refine kX_iastN rfl rfl (by decide) (n) (by first | rfl | decide) (by omega) ?_
            repeat refine kX_one rfl ?_
            refine kX_iastN rfl rfl (by decide) (n) (by first | rfl | decide) (by omega) ?_
            repeat refine kX_one rfl ?_
            refine kX_iastN rfl rfl (by decide) (n) (by first | rfl | decide) (by omega) ?_
            repeat refine kX_one rfl ?_
            refine kX_iastN rfl rfl (by decide) (6 * r + v) (ix6 r v) (by omega) ?_
            repeat refine kX_one rfl ?_
            refine kX_iastN rfl rfl (by decide) (6 * r + v) (ix6 r v) (by omega) ?_
            repeat refine kX_one rfl ?_
            refine kX_ialdV rfl rfl (by decide) (r) (by first | rfl | decide) (by omega) (hv1) ?_
            repeat refine kX_one rfl ?_
            refine kX_iastN rfl rfl (by decide) (r) (by first | rfl | decide) (by omega) ?_
            repeat refine kX_one rfl ?_
            refine kX_st (vaS σ1 n r v (nI so) (nI as)) ?_ ?_
            · rw [vaS, nI_succ v]
              rfl
            have hF' := roF_va σ1 n r v (nI so) (nI as)
            refine kX_ret (i := .ireturn) (len := 1) rfl (Or.inr rfl) rfl (hN r v as so σ1 hr rfl hM hcl hv (by omega) (by omega) ey ez has hso hnew (mI_var h hG hr0 hF' (fun s hs => ?_) (fun t ht => ⟨pk_un (by omega), pk_un (by omega)⟩) hT1 (mTb_va hT1 (by omega)) (mRo_va hT1 (mGr_Ro h1 hG h2) (by omega) hk3 hr hv1 (by omega) hso has h0 h01) (fun r' hr' => ?_)))
            · obtain ⟨r', r1, r2, r3, -⟩ := h3.2.2 s hs
              rw [c 255 (by decide), r2, fN_nI (by omega)]
              have hne : r' ≠ r := fun e => r3 (by rw [e]; exact hcl)
              exact ⟨pk_un hne, rfl, rfl, fun k hk => ⟨pk_un (by omega), pk_un (by omega), rfl, rfl⟩⟩
            · show _ ≤ fN (upd (σ1 244) r (nI (v + 1)) r')
              by_cases e : r' = r
              · subst e
                rw [pk_us, hv1, fN_nI (by omega), fN_nI (by omega)]
                omega
              · rw [pk_un e]
                exact Nat.le_refl _
          · have q : n = 200 := by
              have := qneF q
              rw [h1.2.2.2.1] at this
              exact nI_inj this
            repeat refine kX_one rfl ?_
            refine kX_ret (i := .ireturn) (len := 1) rfl (Or.inr rfl) rfl (hF r hr rfl hM hcl (Or.inr q))
      · have q := qeqF q
        repeat refine kX_one rfl ?_
        refine kX_ret (i := .ireturn) (len := 1) rfl (Or.inr rfl) rfl (hS r hr rfl hM q)
    have k35 : ¬ (y = nI 0 ∧ z = nI 0) → ¬ (y = nI 1 ∧ (z = nI 1 ∨ z = nI 2)) → kX kT L xs (d + 5) 163 35 [(0, .ref 232), (1, .int (nI r)), (2, .int y), (3, .int z)] [] σ Q := by
      intro n0 n1
      repeat refine kX_one rfl ?_
      refine kX_if (fun q => ?_) (fun q => ?_)
      · have q : y ≠ nI 2 := qne q
        repeat refine kX_one rfl ?_
        refine kX_ret (i := .ireturn) (len := 1) rfl (Or.inr rfl) rfl (hO ⟨r, hr, rfl⟩ (fun e => e.elim n0 (fun e => e.elim n1 (fun e => q e.1))))
      · have hy2 : y = nI 2 := qneF q
        repeat refine kX_one rfl ?_
        refine kX_cal (mr_in L xs (d + 4) σ _ _ _) rfl (Or.inr rfl) rfl rfl rfl (fun r1 σ1 q1 => ?_)
        obtain ⟨rfl, rfl⟩ := q1
        rw [isB_dec]
        repeat refine kX_one rfl ?_
        refine kX_if (fun q => ?_) (fun q => ?_)
        · have q := qeq q
          have hz : ¬ isN z 4 := fun ⟨k, k1, k2⟩ => by
            refine isB_ne.mpr ?_ q
            subst k2
            have : k = 0 ∨ k = 1 ∨ k = 2 ∨ k = 3 := by omega
            rcases this with rfl | rfl | rfl | rfl <;> decide
          repeat refine kX_one rfl ?_
          refine kX_ret (i := .ireturn) (len := 1) rfl (Or.inr rfl) rfl (hO ⟨r, hr, rfl⟩ (fun e => e.elim n0 (fun e => e.elim n1 (fun e => hz e.2))))
        · obtain ⟨k, k1, k2, rfl⟩ := in_R (lo := 0) (hi := 3) (by omega) (by omega) (isB_ne.mp (qeqF q)).1 (isB_ne.mp (qeqF q)).2
          subst hy2
          exact key 2 k rfl rfl (by omega) k2 (by omega) (by omega)
    have k18 : ¬ (y = nI 0 ∧ z = nI 0) → kX kT L xs (d + 5) 163 18 [(0, .ref 232), (1, .int (nI r)), (2, .int y), (3, .int z)] [] σ Q := by
      intro n0
      repeat refine kX_one rfl ?_
      refine kX_if (fun q => ?_) (fun q => ?_)
      · exact k35 n0 (fun e => qne q e.1)
      · have hy1 : y = nI 1 := qneF q
        repeat refine kX_one rfl ?_
        refine kX_cal (mr_in L xs (d + 4) σ _ _ _) rfl (Or.inr rfl) rfl rfl rfl (fun r1 σ1 q1 => ?_)
        obtain ⟨rfl, rfl⟩ := q1
        rw [isB_dec]
        repeat refine kX_one rfl ?_
        refine kX_if (fun q => ?_) (fun q => ?_)
        · obtain ⟨k, k1, k2, rfl⟩ := in_R (lo := 1) (hi := 2) (by omega) (by omega) (isB_ne.mp (qne q)).1 (isB_ne.mp (qne q)).2
          subst hy1
          exact key 1 k rfl rfl (by omega) (by omega) (by omega) (by omega)
        · have q := qneF q
          exact k35 n0 (fun e => isB_ne.mpr (by rcases e.2 with rfl | rfl <;> decide) q)
    repeat refine kX_one rfl ?_
    refine kX_if (fun q => ?_) (fun q => ?_)
    · exact k18 (fun e => qne q e.1)
    · obtain rfl : y = nI 0 := qneF q
      repeat refine kX_one rfl ?_
      refine kX_if (fun q => ?_) (fun q => ?_)
      · obtain rfl : z = nI 0 := qeq q
        exact key 0 0 rfl rfl (by omega) (by omega) (by omega) (by omega)
      · exact k18 (fun e => qeqF q e.2)
  · have q := qneF q
    repeat refine kX_one rfl ?_
    refine kX_ret (i := .ireturn) (len := 1) rfl (Or.inr rfl) rfl (hU (fun e => isB_ne.mpr e q))
set_option maxRecDepth 100000 in
set_option maxHeartbeats 4000000 in
theorem mf_maySort (L : Nat) (xs : Nat → Int32) (d : Nat) (σ : kS) (x y : Int32) : kXM kT L xs (d + 1) 141 [.int x, .int y] σ (fun r σ' => r = some (.int (isB (mayS x y))) ∧ σ = σ') := by
  unfold kXM
  by_cases hy : ∃ k, k < 3 ∧ x = nI k
  · obtain ⟨k, hk, rfl⟩ := hy
    have : k = 0 ∨ k = 1 ∨ k = 2 := by omega
    rcases this with rfl | rfl | rfl
    · have no1 : nI 0 ≠ nI 1 := by decide
      have no2 : nI 0 ≠ nI 2 := by decide
      repeat refine kX_one rfl ?_
      refine kX_if (fun q => ?_) (fun q => ?_)
      · have q : y ≠ nI 0 := qne q
        repeat refine kX_one rfl ?_
        refine kX_ret (i := .ireturn) (len := 1) rfl (Or.inr rfl) rfl (⟨rF (fun e => e.elim (fun e => q e.2) (fun e => e.elim (fun e => no1 e.1) (fun e => no2 e.1))), rfl⟩)
      · have q : y = nI 0 := qneF q
        repeat refine kX_one rfl ?_
        refine kX_ret (i := .ireturn) (len := 1) rfl (Or.inr rfl) rfl (⟨rT (Or.inl ⟨rfl, q⟩), rfl⟩)
    · have no0 : nI 1 ≠ nI 0 := by decide
      have no2 : nI 1 ≠ nI 2 := by decide
      repeat refine kX_one rfl ?_
      refine kX_if (fun q => ?_) (fun q => ?_)
      · have q : y = nI 1 := qeq q
        repeat refine kX_one rfl ?_
        refine kX_ret (i := .ireturn) (len := 1) rfl (Or.inr rfl) rfl (⟨rT (Or.inr (Or.inl ⟨rfl, Or.inl q⟩)), rfl⟩)
      · have q : y ≠ nI 1 := qeqF q
        repeat refine kX_one rfl ?_
        refine kX_if (fun q2 => ?_) (fun q2 => ?_)
        · have q2 : y ≠ nI 2 := qne q2
          repeat refine kX_one rfl ?_
          refine kX_ret (i := .ireturn) (len := 1) rfl (Or.inr rfl) rfl (⟨rF (fun e => e.elim (fun e => no0 e.1) (fun e => e.elim (fun e => e.2.elim q q2) (fun e => no2 e.1))), rfl⟩)
        · have q2 : y = nI 2 := qneF q2
          repeat refine kX_one rfl ?_
          refine kX_ret (i := .ireturn) (len := 1) rfl (Or.inr rfl) rfl (⟨rT (Or.inr (Or.inl ⟨rfl, Or.inr q2⟩)), rfl⟩)
    · have no0 : nI 2 ≠ nI 0 := by decide
      have no1 : nI 2 ≠ nI 1 := by decide
      repeat refine kX_one rfl ?_
      refine kX_if (fun q => ?_) (fun q => ?_)
      · have q : y < 0 := of_decide_eq_true q
        repeat refine kX_one rfl ?_
        refine kX_ret (i := .ireturn) (len := 1) rfl (Or.inr rfl) rfl (⟨rF (fun e => e.elim (fun e => no0 e.1) (fun e => e.elim (fun e => no1 e.1) (fun ⟨_, j, j1, j2⟩ => nI_pos (show j < 2147483648 by omega) (by rw [← j2]; exact q)))), rfl⟩)
      · have q : ¬ y < 0 := of_decide_eq_false q
        obtain ⟨so, hso, rfl⟩ := nI_of q
        repeat refine kX_one rfl ?_
        refine kX_if (fun q2 => ?_) (fun q2 => ?_)
        · have q2 := qgt q2 so 3
          repeat refine kX_one rfl ?_
          refine kX_ret (i := .ireturn) (len := 1) rfl (Or.inr rfl) rfl (⟨rF (fun e => e.elim (fun e => no0 e.1) (fun e => e.elim (fun e => no1 e.1) (fun ⟨_, j, j1, j2⟩ => by have := nI_inj j2; omega))), rfl⟩)
        · have q2 := qgtF q2 so 3
          repeat refine kX_one rfl ?_
          refine kX_ret (i := .ireturn) (len := 1) rfl (Or.inr rfl) rfl (⟨rT (Or.inr (Or.inr ⟨rfl, so, by omega, rfl⟩)), rfl⟩)
  · have n0 : ∀ k, k < 3 → x ≠ nI k := fun k hk e => hy ⟨k, hk, e⟩
    iterate 1 (refine kX_one rfl ?_)
    refine kX_tabO rfl (kp_out 3 (fun k hk e => hy ⟨k, hk, e⟩) (by decide)) rfl ?_
    repeat refine kX_one rfl ?_
    refine kX_ret (i := .ireturn) (len := 1) rfl (Or.inr rfl) rfl (⟨rF (fun e => e.elim (fun e => n0 0 (by decide) e.1) (fun e => e.elim (fun e => n0 1 (by decide) e.1) (fun e => n0 2 (by decide) e.1))), rfl⟩)
end
section
/-! alike: variable -/
theorem aP_g {σ ω : kS} {n b t a : Nat} {bl : List Nat} (h : mTb σ n b) (hF : ∀ u, u < n → ω 233 u = σ 233 u ∧ ω 234 u = σ 234 u ∧ ω 235 u = σ 235 u) (ht : t < n) (e0 : ω a = σ a) (e3 : ω (a + 3) = σ (a + 3)) (e4 : ω (a + 4) = σ (a + 4)) (hp : aP σ a t bl) : aP ω a t bl := by
  obtain ⟨pl, p0, p1, p2, p3, p4, p5, p6⟩ := hp
  have hlt : ∀ i (hi : i < pl.length), (pl[i]'hi) < n := fun i hi => by
    have := (p4 _ (List.getElem_mem hi)).1
    omega
  refine ⟨pl, p0, by rw [e0]; exact p1, by rw [e3]; exact p2, p3, fun u hu => ⟨(p4 u hu).1, by rw [(fT_all h hF (show u < n by have := (p4 u hu).1; omega)).2.2, (fT_all h hF ht).2.2]; exact (p4 u hu).2⟩, fun i hi ho => ?_, fun j hj => ?_⟩
  · have hk := hF _ (hlt i hi)
    unfold opn at ho
    rw [(fT_all h hF (hlt i hi)).2.1, hk.1] at ho
    rw [hk.2.1, hk.2.2]
    exact p5 i hi ho
  · obtain ⟨f, f1, f2, f3⟩ := p6 j hj
    refine ⟨f, f1, by rw [e4]; exact f2, fun i hi hif => ?_⟩
    rw [(fT_all h hF (hlt i hi)).2.2]
    exact f3 i hi hif
theorem aE_g {σ ω : kS} {n b R r e : Nat} (h : mTb σ n b) (hR : mRo σ n R) (hr : r < R) (he : e < fN (σ 247 r)) (hF : ∀ u, u < n → ω 233 u = σ 233 u ∧ ω 234 u = σ 234 u ∧ ω 235 u = σ 235 u ∧ ω 240 u = σ 240 u ∧ ω 241 u = σ 241 u) (e1 : ω 248 (6 * r + e) = σ 248 (6 * r + e)) (e2 : ω 249 (6 * r + e) = σ 249 (6 * r + e)) (eb : bls ω r e = bls σ r e) (hc : ∀ i, i < 5 → ω (28 + 35 * r + 5 * e + i) = σ (28 + 35 * r + 5 * e + i)) (hE : aE σ r e) : aE ω r e := by
  have hn := h.1
  obtain ⟨t, t1, t2, -⟩ := hR.2.2.2.2.2 r e hr he
  obtain ⟨h1, h2, h3, h4⟩ := hE
  have c0 := hc 0 (by omega)
  have c1 := hc 1 (by omega)
  have c2 := hc 2 (by omega)
  have c3 := hc 3 (by omega)
  have c4 := hc 4 (by omega)
  rw [Nat.add_zero] at c0
  rw [show 28 + 35 * r + 5 * e + 1 = 29 + 35 * r + 5 * e by omega] at c1
  rw [show 28 + 35 * r + 5 * e + 2 = 30 + 35 * r + 5 * e by omega] at c2
  unfold aE
  rw [e1, e2, eb, c0, c1, c2]
  refine ⟨h1, h2, h3, fun q => ?_⟩
  obtain ⟨g1, g2, g3, g4⟩ := h4 q
  refine ⟨g1, g2, fun j hj => ?_, ?_⟩
  · have := hF _ (bls_lt h hR hr he (List.getElem_mem hj)).1
    rw [this.2.2.2.2, this.2.2.2.1]
    exact g3 j hj
  · rw [t2, fN_nI (by omega)] at g4 ⊢
    exact aP_g h (fun u hu => ⟨(hF u hu).1, (hF u hu).2.1, (hF u hu).2.2.1⟩) t1 c0 c3 c4 g4
/-- no RUN has a row any more: TERMS have come -/
theorem aU_gr {σ ω : kS} {n n' R S C : Nat} {kl : List Nat} (hJ : cJ σ n R S C) (hn : n < n') (hn2 : n' ≤ 200) (e1 : ω 181 = σ 181) (e2 : ω 183 = σ 183) (e3 : ω 182 = σ 182) (e4 : ω 17 = σ 17) (f1 : ω 232 52 = σ 232 52) (f2 : ω 232 55 = σ 232 55) (f3 : ω 274 = σ 274) (f4 : ω 264 = σ 264) (f5 : ω 265 = σ 265) (h : aU σ n S kl) : aU ω n' S kl := by
  unfold aU at h ⊢
  rw [e1, e2, e3, e4, f1, f2, f3, f4, f5]
  refine ⟨h.1, fun q => ?_⟩
  obtain ⟨g1, g2, g3, g5, -⟩ := h.2 q
  refine ⟨g1, g2, g3, g5, fun hg => ?_⟩
  rcases hJ.2.2.2.2.2.2.2.2.1 with z | ⟨-, -, -, z⟩
  · exact absurd z (h.1.mpr q)
  · rcases z with z | ⟨g, z1, z2, -⟩
    · rw [z] at hg
      exact absurd hg.symm (nI_m1 (by omega))
    · rw [z2] at hg
      have := nI_inj hg (by omega) (by omega)
      omega
/-- one VARIABLE more on both sides -/
theorem bJ_va {σ σ1 τ ω : kS} {n b R S C m r v as so : Nat} {kl : List Nat} (h : aJ σ n b R S C kl m) (hn : n < 200) (hr : r < R) (hcl : σ 250 r = 0) (hv : σ 244 r = nI v) (hv6 : v < 6) (hτ : τ = teS (cVa σ n v (nI r) (nI so)) r v (nI as) (nI so)) (hJ : cJ τ (n + 1) R S C) (hN : mNw τ σ1 n 3 (-1) (-1)) (hω : ω = vaS σ1 n r v (nI so) (nI as)) (hI : mI ω (n + 1) 200 R S C kl) : bJ m ω := by
  obtain ⟨i, j, tt, ar, s, c, k, u, f, mm⟩ := h
  have hR4 := i.2.1.1
  have hfv : fN (σ 244 r) = v := by rw [hv, fN_nI (by omega)]
  have hGn := mGr_new hN
  obtain ⟨z, g, nx, hd, jd, hσ1, hT1⟩ := hN
  have lo : ∀ c, c < 232 → ω c = τ c := fun c hc => by
    rw [hω]
    unfold vaS
    rw [up_ne (by omega), up_ne (by omega), up_ne (by omega), up_ne (by omega), up_ne (by omega), up_ne (by omega)]
    exact mLow_gr hGn c hc
  have te : ∀ c, c < 23 + 35 * r ∨ 27 + 35 * r ≤ c → τ c = cVa σ n v (nI r) (nI so) c := fun c hc => by
    rw [hτ]
    unfold teS
    rw [up_ne (by omega), up_ne (by omega), up_ne (by omega), up_ne (by omega)]
  have va : ∀ c, 13 ≤ c → cVa σ n v (nI r) (nI so) c = σ c := fun c hc => (cT_va (σ := σ) (r0 := nI r) (so := nI so) j.1 hn hv6).2.1 c (fun q => by have := tC_lt q; omega)
  have el : ∀ c, 13 ≤ c → c < 232 → c < 23 + 35 * r ∨ 27 + 35 * r ≤ c → ω c = σ c := fun c c0 c1 c2 => (lo c c1).trans ((te c c2).trans (va c c0))
  have eT : ∀ c, c < 13 → ω c = cVa σ n v (nI r) (nI so) c := fun c hc => (lo c (by omega)).trans (te c (by omega))
  have hi : ∀ c, 232 ≤ c → τ c = σ c := fun c hc => (te c (by omega)).trans (va c (by omega))
  have er : ∀ c, 232 < c → c ∉ rowC → c ≠ 239 → c ≠ 240 → c ≠ 241 → c ≠ 245 → c ≠ 246 → c ≠ 244 → ω c = σ c := fun c c0 c1 c2 c3 c4 c5 c6 c7 => by
    rw [hω]
    unfold vaS
    rw [up_ne c7, up_ne c6, up_ne c5, up_ne c4, up_ne c3, up_ne c2, hGn.1 c c1, hi c (by omega)]
  have hr' : ∀ l : List Nat, l.all (fun c => decide (232 < c ∧ c ∉ rowC ∧ c ≠ 239 ∧ c ≠ 240 ∧ c ≠ 241 ∧ c ≠ 245 ∧ c ≠ 246 ∧ c ≠ 244)) = true → eqC σ ω l := eqC_of (fun c q => er c q.1 q.2.1 q.2.2.1 q.2.2.2.1 q.2.2.2.2.1 q.2.2.2.2.2.1 q.2.2.2.2.2.2.1 q.2.2.2.2.2.2.2)
  have one : ∀ c, [c].all (fun c => decide (232 < c ∧ c ∉ rowC ∧ c ≠ 239 ∧ c ≠ 240 ∧ c ≠ 241 ∧ c ≠ 245 ∧ c ≠ 246 ∧ c ≠ 244)) = true → ω c = σ c := fun c hc => hr' [c] hc c (List.mem_singleton.mpr rfl)
  have eo : ∀ j, j ∉ rowT → ω 232 j = σ 232 j := fun j hj => by
    have e1 : ω 232 = σ1 232 := by
      rw [hω]
      rfl
    rw [e1, hGn.2.1 j hj, hi 232 (by decide)]
  have s1 : ∀ c, c ∉ rowC → σ1 c = σ c ∨ c < 232 := fun c hc => by
    by_cases q : c < 232
    · exact Or.inr q
    · exact Or.inl ((hGn.1 c hc).trans (hi c (by omega)))
  have e_or : ω 239 = upd (σ 239) n (nI r) := by
    rw [hω]; show upd (σ1 239) n (nI r) = _; rw [hGn.1 _ (by decide), hi _ (by decide)]
  have e_so : ω 240 = upd (σ 240) n (nI so) := by
    rw [hω]; show upd (σ1 240) n (nI so) = _; rw [hGn.1 _ (by decide), hi _ (by decide)]
  have e_on : ω 241 = upd (σ 241) n (nI v) := by
    rw [hω]; show upd (σ1 241) n (nI v) = _; rw [hGn.1 _ (by decide), hi _ (by decide)]
  have e_va : ω 245 = upd (σ 245) (6 * r + v) (nI n) := by
    rw [hω]; show upd (σ1 245) (6 * r + v) (nI n) = _; rw [hGn.1 _ (by decide), hi _ (by decide)]
  have e_ta : ω 246 = upd (σ 246) (6 * r + v) (nI as) := by
    rw [hω]; show upd (σ1 246) (6 * r + v) (nI as) = _; rw [hGn.1 _ (by decide), hi _ (by decide)]
  have e_vs : ω 244 = upd (σ 244) r (nI (v + 1)) := by
    rw [hω]; show upd (σ1 244) r (nI (v + 1)) = _; rw [hGn.1 _ (by decide), hi _ (by decide)]
  have hk : ∀ u, u < n → ω 233 u = σ 233 u ∧ ω 234 u = σ 234 u ∧ ω 235 u = σ 235 u := fun u hu => by
    have := hGn.2.2 u hu
    rw [hi 233 (by decide), hi 234 (by decide), hi 235 (by decide)] at this
    rw [hω]
    exact this
  have hk2 : ∀ u, u < n → ω 233 u = σ 233 u ∧ ω 234 u = σ 234 u ∧ ω 235 u = σ 235 u ∧ ω 240 u = σ 240 u ∧ ω 241 u = σ 241 u := fun u hu => ⟨(hk u hu).1, (hk u hu).2.1, (hk u hu).2.2, by rw [e_so, pk_un (by omega)], by rw [e_on, pk_un (by omega)]⟩
  have hkn : ω 233 n = nI 3 := by
    rw [hω, hσ1]
    exact pk_us
  have hO : ∀ r', r' < R → r' ≠ r → roO σ ω r' := fun r' h1 h2 => by
    unfold roO
    rw [e_vs, e_va, e_ta, one 247 (by decide), one 250 (by decide), one 248 (by decide), one 249 (by decide), pk_un h2]
    exact ⟨rfl, rfl, rfl, fun k hk => ⟨pk_un (by omega), pk_un (by omega), rfl, rfl⟩⟩
  have hF : ∀ r', r' < R → r' ≠ r → fR σ ω r' n := fun r' h1 h2 => ⟨hO r' h1 h2, hk2, fun c c1 c2 => el c (by omega) (by omega) (by omega)⟩
  have hsr : ∀ s, s < S → fN (σ 255 s) < R ∧ fN (σ 255 s) ≠ r := fun s hs => by
    obtain ⟨r', r1, r2, r3, -⟩ := i.2.2.1.2.2 s hs
    rw [r2, fN_nI (by omega)]
    exact ⟨r1, fun e => r3 (by rw [e]; exact hcl)⟩
  have hbd : ∀ dn k, dn ≤ fN (σ 247 r) → k < v → (bdv ω r dn k ↔ bdv σ r dn k) := fun dn k hdn hk' => by
    unfold bdv
    rw [e_vs, pk_us, fN_nI (by omega), hfv, e_ta, e_va, one 248 (by decide), one 249 (by decide), pk_un (by omega), pk_un (by omega)]
    refine and_congr ⟨fun _ => hk', fun _ => by omega⟩ (or_congr_right (exists_congr (fun e => and_congr_right (fun he => and_congr_right (fun _ => ?_)))))
    obtain ⟨t, t1, t2, -⟩ := i.2.1.2.2.2.2.2 r e hr (by omega)
    rw [t2, fN_nI (by omega), (fT_all i.1 hk t1).2.2]
  have hbl : ∀ e, e < fN (σ 247 r) → bls ω r e = bls σ r e := fun e he => by
    obtain ⟨t, t1, t2, t3, -⟩ := i.2.1.2.2.2.2.2 r e hr he
    unfold bls
    rw [one 248 (by decide), t2, fN_nI (by omega), (fT_all i.1 hk t1).2.2]
    refine fl_congr (fun w hw => ?_)
    have hw2 : w ∈ tvs (σ 233) (σ 234) (σ 235) t := by
      rcases (ddl_mem _ _).mp hw with q | q
      · cases q
      · exact q
    have hwn := tvs_mem (mTb_num i.1) t t1 w hw2
    obtain ⟨r2, k2, a1, a2, a3⟩ := i.2.1.2.2.2.2.1 w hwn.1 hwn.2.1
    obtain ⟨t', so', as', b1, b2, b3, b4, b5, -⟩ := i.2.1.2.2.2.1 r2 k2 a1 a2
    obtain rfl : w = t' := nI_inj (a3.symm.trans b2) (by omega) (by omega)
    obtain rfl : r2 = r := nI_inj (b4.symm.trans (t3 w hw2)) (by omega) (by omega)
    have e5 : fN (σ 241 w) = k2 := by
      rw [b5]
      exact fN_nI (by rw [hfv] at a2; omega)
    rw [(hk2 w hwn.1).2.2.2.2, e5]
    unfold nbv
    rw [hfv] at a2
    rw [hbd _ _ (by omega) a2, hbd _ _ (by omega) a2]
  refine ⟨n + 1, 200, R, S, C, kl, hI, cJ_low lo hJ, ⟨fun t ht => ?_, ?_⟩, fun r' hr2 => ?_, fun s' hs => ?_, aC_c i.2.2.2.2.1 (fun c c1 c2 => el c (by omega) (by omega) (by omega)) (hr' _ (by decide)) c, aK_eq (by rw [el 13 (by decide) (by decide) (by omega)]) (el _ (by decide) (by decide) (by omega)) k, aU_gr j (by omega) (by omega) (el _ (by decide) (by decide) (by omega)) (el _ (by decide) (by decide) (by omega)) (el _ (by decide) (by decide) (by omega)) (el _ (by decide) (by decide) (by omega)) (eo _ (by decide)) (eo _ (by decide)) (one _ (by decide)) (one _ (by decide)) (one _ (by decide)) u, aF_R (n := n) (R := R) (aF_fr (n' := n) i.1 i.2.1 i.2.2.1 (el _ (by decide) (by decide) (by omega)) (el _ (by decide) (by decide) (by omega)) (el _ (by decide) (by decide) (by omega)) (el _ (by decide) (by decide) (by omega)) ⟨eo _ (by decide), eo _ (by decide), eo _ (by decide), eo _ (by decide)⟩ (one _ (by decide)) (one _ (by decide)) (one _ (by decide)) (fun s _ => by rw [one 255 (by decide)]) (fun s hs => hF _ (hsr s hs).1 (hsr s hs).2) f), aM_eq (Nat.le_refl _) (fun c c1 c2 => el c (by omega) (by omega) (by omega)) mm⟩
  · by_cases e : t = n
    · subst e
      have esz := hI.1.2.2.2.2.2.1.2.1 t (Or.inl (by omega))
      have egr := hI.1.2.2.2.2.2.2.1 t (Or.inl (by omega))
      have ek : ω 2 t = nI 3 := by rw [eT _ (by decide)]; exact pk_us
      unfold aT1
      rw [ek, hkn, esz, egr, eT 3 (by decide), eT 4 (by decide), eT 5 (by decide), eT 8 (by decide), eT 10 (by decide), eT 11 (by decide), eT 12 (by decide), e_or, e_so, e_on]
      have f1 : ω 234 t = -1 ∧ ω 235 t = -1 := by
        rw [hω, hσ1]
        exact ⟨pk_us, pk_us⟩
      have f2 : tsz (ω 233) (ω 234) (ω 235) t = 1 := tA_0 hkn (by omega)
      have f3 : tgd (ω 233) (ω 234) (ω 235) t = false := by
        have : tgd (ω 233) (ω 234) (ω 235) t = decide (ω 233 t ≠ nI 3) := tA_0 hkn (by omega)
        rw [this, hkn]
        rfl
      rw [f1.1, f1.2, f2, f3]
      exact ⟨rfl, pk_us, pk_us, pk_us, pk_us, fun q => absurd q (by decide), fun _ => ⟨pk_us.trans pk_us.symm, pk_us.trans pk_us.symm, pk_us.trans pk_us.symm⟩⟩
    · have ht : t < n := by omega
      have hsg := mTb_sg i.1 hI.1 (by omega) hk ht
      have := tt.1 t ht
      unfold aT1 at this ⊢
      have q1 : cVa σ n v (nI r) (nI so) 2 t = σ 2 t := pk_un e
      have q2 : cVa σ n v (nI r) (nI so) 3 t = σ 3 t := pk_un e
      have q3 : cVa σ n v (nI r) (nI so) 4 t = σ 4 t := pk_un e
      have q4 : cVa σ n v (nI r) (nI so) 5 t = σ 5 t := pk_un e
      have q5 : cVa σ n v (nI r) (nI so) 8 t = σ 8 t := (pk_un e).trans (pk_un e)
      have q6 : cVa σ n v (nI r) (nI so) 9 t = σ 9 t := pk_un e
      have q7 : cVa σ n v (nI r) (nI so) 10 t = σ 10 t := pk_un e
      have q8 : cVa σ n v (nI r) (nI so) 11 t = σ 11 t := pk_un e
      have q9 : cVa σ n v (nI r) (nI so) 12 t = σ 12 t := pk_un e
      rw [eT 2 (by decide), eT 3 (by decide), eT 4 (by decide), eT 5 (by decide), eT 8 (by decide), eT 9 (by decide), eT 10 (by decide), eT 11 (by decide), eT 12 (by decide), q1, q2, q3, q4, q5, q6, q7, q8, q9, (hk t ht).1, (hk t ht).2.1, (hk t ht).2.2, hsg.1, hsg.2, one 238 (by decide), e_or, pk_un e, (hk2 t ht).2.2.2.1, (hk2 t ht).2.2.2.2]
      exact this
  · have hC : cCn (cVa σ n v (nI r) (nI so)) (n + 1) := cCn_0 (k := 3) tt.2 (fun t ht => ⟨pk_un (by omega), pk_un (by omega), pk_un (by omega)⟩) pk_us (by omega) rfl rfl
    unfold cCn cpt at hC ⊢
    rw [eT 2 (by decide), eT 3 (by decide), eT 4 (by decide), eT 7 (by decide), eT 6 (by decide)]
    exact hC
  · by_cases e : r' = r
    · subst e
      obtain ⟨g1, g2, g3, g4, g5⟩ := ar r' hr
      have c23 : ω (23 + 35 * r') = upd (σ (23 + 35 * r')) 3 (nI (v + 1)) := by
        rw [lo _ (by omega), hτ]
        unfold teS
        rw [up_eq, va _ (by omega)]
      have c24 : ω (24 + 35 * r') = upd (σ (24 + 35 * r')) v (nI as) := by
        rw [lo _ (by omega), hτ]
        unfold teS
        rw [up_ne (by omega), up_ne (by omega), up_ne (by omega), up_eq, va _ (by omega)]
      have c25 : ω (25 + 35 * r') = upd (σ (25 + 35 * r')) v (nI so) := by
        rw [lo _ (by omega), hτ]
        unfold teS
        rw [up_ne (by omega), up_ne (by omega), up_eq, va _ (by omega)]
      have c26 : ω (26 + 35 * r') = upd (σ (26 + 35 * r')) v 0 := by
        rw [lo _ (by omega), hτ]
        unfold teS
        rw [up_ne (by omega), up_eq, va _ (by omega)]
      unfold aR1
      rw [c23, c24, c25, c26, e_vs, show upd (σ 244) r' (nI (v + 1)) r' = nI (v + 1) from pk_us, fN_nI (by omega), one 247 (by decide), one 250 (by decide), e_ta, e_va, e_so]
      refine ⟨rfl, g2, g3, fun k hk' => ?_, fun e he => ?_⟩
      · by_cases e : k = v
        · subst e
          rw [pk_us, pk_us, pk_us, pk_us, pk_us, fN_nI (by omega), pk_us]
          refine ⟨rfl, rfl, fun q => ⟨fun z => absurd rfl z, fun z => ?_⟩⟩
          exfalso
          obtain ⟨-, z⟩ := z
          rw [e_ta, pk_us, e_va, pk_us, fN_nI (by omega)] at z
          rcases z with z | ⟨e, e1, e2, e3⟩
          · exact z q
          · rw [one 248 (by decide)] at e3
            obtain ⟨t, t1, t2, -⟩ := i.2.1.2.2.2.2.2 r' e hr e1
            rw [t2, fN_nI (by omega), (fT_all i.1 hk t1).2.2] at e3
            have := (tvs_mem (mTb_num i.1) t t1 n e3).1
            omega
        · have hkv : k < v := by omega
          obtain ⟨t, so', as', t1, t2, -⟩ := i.2.1.2.2.2.1 r' k hr (by rw [hfv]; exact hkv)
          obtain ⟨f1, f2, f3⟩ := g4 k (by rw [hfv]; exact hkv)
          rw [pk_un e, pk_un e, pk_un e, show upd (σ 246) (6 * r' + v) (nI as) (6 * r' + k) = σ 246 (6 * r' + k) from pk_un (by omega), show upd (σ 245) (6 * r' + v) (nI n) (6 * r' + k) = σ 245 (6 * r' + k) from pk_un (by omega), t2, fN_nI (by omega), show upd (σ 240) n (nI so) t = σ 240 t from pk_un (by omega), hbd _ _ (Nat.le_refl _) hkv]
          rw [t2, fN_nI (by omega)] at f2
          exact ⟨f1, f2, f3⟩
      · have he6 : fN (σ 247 r') ≤ 6 := by
          obtain ⟨-, ev, ev1, ev2⟩ := i.2.1.2.2.1 r' hr
          rw [ev2, fN_nI (by omega)]
          exact ev1
        exact aE_g i.1 i.2.1 hr he hk2 (by rw [one 248 (by decide)]) (by rw [one 249 (by decide)]) (hbl e he) (fun i hi => el _ (by omega) (by omega) (by omega)) (g5 e he)
    · exact fR_aR1 i.1 i.2.1 (hF r' hr2 e) hr2 (ar r' hr2)
  · exact fS_aS1 i.1.1 i.2.1 i.2.2.1 hs ⟨by rw [one 255 (by decide)], fun k _ => by rw [one 256 (by decide)], hO _ (hsr s' hs).1 (hsr s' hs).2, fun u _ => by rw [one 238 (by decide)], by rw [el _ (by decide) (by decide) (by omega)], by rw [el _ (by decide) (by decide) (by omega)], fun k _ => by rw [el _ (by decide) (by decide) (by omega)]⟩ (s s' hs)
set_option maxRecDepth 100000 in
set_option maxHeartbeats 4000000 in
theorem bo_variable (L : Nat) (xs : Nat → Int32) (d d' m : Nat) (σ : kS) (x y z : Int32) (h : bJ m σ) : kXM kT L xs (d + 5) 115 [.ref 0, .int x, .int y, .int z] σ (fun r τ => ∃ z', r = some (.int z') ∧ kXM kT L xs (d' + 5) 163 [.ref 232, .int x, .int y, .int z] τ (fun r' ω => r' = some (.int z') ∧ bJ m ω)) := by
  have hb := h
  obtain ⟨n, b, R, S, C, kl, hA⟩ := h
  have hI := hA.1
  have h := hA.2.1
  have hT := h.1
  have hn := hT.1
  have hR := h.2.1
  have hR4 := hR.1
  unfold kXM
  iterate 3 (refine kX_one rfl ?_)
  refine kX_cal (mc_hasRole L xs (d + 3) σ R x hR4 hR.2.1) rfl (Or.inr rfl) rfl rfl rfl (fun r1 σ1 q1 => ?_)
  obtain ⟨rfl, rfl⟩ := q1
  repeat refine kX_one rfl ?_
  refine kX_if (fun q => ?_) (fun q => ?_)
  · obtain ⟨r, hr, rfl⟩ := isB_ne.mp (qne q)
    have hr4 : r < 4 := by omega
    obtain ⟨v, ev, v1, e1, v2, e2, so1, ev1⟩ := hR.2.2 r hr
    iterate 2 (refine kX_one rfl ?_)
    refine kX_cal (mf_maySort L xs (d + 3) σ y z) rfl (Or.inr rfl) rfl rfl rfl (fun r1 σ1 q1 => ?_)
    obtain ⟨rfl, rfl⟩ := q1
    have uni : ∀ r', r' < R → nI r = nI r' → r' = r := fun r' q q2 => (nI_inj q2).symm
    obtain ⟨f1, f2, f3, f4, f5⟩ := hA.2.2.2.1 r hr
    repeat refine kX_one rfl ?_
    refine kX_if (fun qm => ?_) (fun qm => ?_)
    rotate_left
    · have hM : ¬ mayS y z := fun e => isB_ne.mpr e (qneF qm)
      repeat refine kX_one rfl ?_
      refine kX_ret (i := .ireturn) (len := 1) rfl (Or.inr rfl) rfl (⟨_, rfl, mg_variable L xs d' σ n b R S C kl _ _ _ _ hI (fun e => absurd ⟨r, hr, rfl⟩ e) (fun _ _ => ⟨rfl, hb⟩) (fun _ _ _ e => absurd e hM) (fun _ _ _ e => absurd e hM) (fun _ _ _ _ _ _ _ e => absurd e hM)⟩)
    · have hM := isB_ne.mp (qne qm)
      have hso : ∃ so, so ≤ 3 ∧ z = nI so ∧ (y = 1 → so ≤ 2) := by
        rcases hM with ⟨e1, e2⟩ | ⟨e1, e2 | e2⟩ | ⟨e1, so, e2, e3⟩
        · exact ⟨0, by omega, e2, fun _ => by omega⟩
        · exact ⟨1, by omega, e2, fun _ => by omega⟩
        · exact ⟨2, by omega, e2, fun _ => by omega⟩
        · exact ⟨so, by omega, e3, fun e => absurd (e1.symm.trans e) (by decide)⟩
      obtain ⟨so, s1, rfl, s2⟩ := hso
      iterate 4 (refine kX_one rfl ?_)
      refine kX_aaldN rfl (rfl) (by decide) (by decide) (by decide) (r) (by first | rfl | decide) (hr4) (ro_at hr4) ?_
      iterate 2 (refine kX_one rfl ?_)
      refine kX_getN rfl rfl (kT_ro hr4) rfl ?_
      repeat refine kX_one rfl ?_
      refine kX_if (fun q2 => ?_) (fun q2 => ?_)
      · have hcl : σ 250 r = 0 := Classical.byContradiction (fun e => f3.mpr e (qeq q2))
        have hvr : σ 244 r = nI v := f1.symm.trans v2
        iterate 1 (refine kX_one rfl ?_)
        refine kX_getN rfl rfl (kT_ro hr4) rfl ?_
        refine kX_top (v2) ?_
        iterate 1 (refine kX_one rfl ?_)
        repeat refine kX_one rfl ?_
        refine kX_if (fun q3 => ?_) (fun q3 => ?_)
        · have q3 := qge q3 v 6
          repeat refine kX_one rfl ?_
          refine kX_ret (i := .ireturn) (len := 1) rfl (Or.inr rfl) rfl (⟨_, rfl, mg_variable L xs d' σ n b R S C kl _ _ _ _ hI (fun e => absurd ⟨r, hr, rfl⟩ e) (fun _ e => absurd hM e) (fun r' c1 c2 _ c3 => absurd hcl (by rw [← uni r' c1 c2]; exact c3)) (fun _ _ _ _ _ _ => ⟨rfl, hb⟩) (fun r' v' as' so' σ1 c1 c2 _ c3 c4 c5 => by rw [uni r' c1 c2, hvr] at c4; have := nI_inj c4; omega)⟩)
        · have q3 := qgeF q3 v 6
          iterate 2 (refine kX_one rfl ?_)
          refine kX_cal (mc_isFull L xs (d + 3) σ n hn hT.2.1) rfl (Or.inr rfl) rfl rfl rfl (fun r1 σ1 q1 => ?_)
          obtain ⟨rfl, rfl⟩ := q1
          repeat refine kX_one rfl ?_
          refine kX_if (fun q4 => ?_) (fun q4 => ?_)
          · have q4 : ¬ n = 200 := fun z => isB_ne.mpr z (qeq q4)
            iterate 4 (refine kX_one rfl ?_)
            refine kX_getN rfl rfl (kT_ro hr4) rfl ?_
            refine kX_top (v2) ?_
            iterate 1 (refine kX_one rfl ?_)
            have hlt : n < 200 := by omega
            refine kX_cal (mf_newVariable L xs d σ n v (nI r) (nI so) hT hlt) rfl (Or.inr rfl) rfl rfl rfl (fun r1 σ1 q1 => ?_)
            obtain ⟨rfl, hs1⟩ := q1
            obtain ⟨g1, g2⟩ := cT_va (r0 := nI r) (so := nI so) hT hlt q3
            rw [← hs1] at g1 g2
            · have h2 := cJ_gr h g2 (by omega) g1
              have ec : ∀ c, 13 ≤ c → σ1 c = σ c := fun c hc => g2.1 c (fun q => by have := tC_lt q; omega)
              have hvc : σ1 (23 + 35 * r) 3 = nI v := by
                rw [ec _ (by omega)]
                exact v2
              iterate 4 (refine kX_one rfl ?_)
              refine kX_cal (mc_tell L xs (d + 3) σ1 r v y (nI so) hr4 q3 hvc) rfl (Or.inr rfl) rfl (jcall_v rfl rfl rfl (kT_ro hr4) rfl rfl) rfl (fun r1 σ1 q1 => ?_)
              obtain ⟨rfl, rfl⟩ := q1
              have hoth : ∀ c, c < 23 + 35 * r ∨ 58 + 35 * r ≤ c → teS σ1 r v y (nI so) c = σ1 c := fun c hc => by
                unfold teS
                rw [up_ne (by omega), up_ne (by omega), up_ne (by omega), up_ne (by omega)]
              repeat refine kX_one rfl ?_
              have hJ2 : cJ (teS σ1 r v y (nI so)) (n + 1) R S C := by
                refine cJ_ro h2 hr hoth ?_
                refine ⟨v + 1, ev, by omega, e1, ?_, ?_, fun k hk => ?_, fun k hk => ?_⟩
                · unfold teS
                  rw [up_eq]
                  rfl
                · unfold teS
                  rw [up_eq]
                  show σ1 (23 + 35 * r) 5 = _
                  rw [ec _ (by omega)]
                  exact e2
                · have e25 : teS σ1 r v y (nI so) (25 + 35 * r) = upd (σ1 (25 + 35 * r)) v (nI so) := by
                    unfold teS
                    rw [up_ne (by omega), up_ne (by omega), up_eq]
                  have e24 : teS σ1 r v y (nI so) (24 + 35 * r) = upd (σ1 (24 + 35 * r)) v y := by
                    unfold teS
                    rw [up_ne (by omega), up_ne (by omega), up_ne (by omega), up_eq]
                  rw [e25, e24]
                  by_cases e : k = v
                  · subst e
                    rw [pk_us, pk_us]
                    exact ⟨so, s1, rfl, s2⟩
                  · rw [pk_un e, pk_un e, ec _ (by omega), ec _ (by omega)]
                    exact so1 k (by omega)
                · refine cE_up (σ := σ) (n := n) (by omega) (fun i hi => ?_) (ev1 k hk)
                  have : teS σ1 r v y (nI so) (28 + 35 * r + 5 * k + i) = σ1 (28 + 35 * r + 5 * k + i) := by
                    unfold teS
                    rw [up_ne (by omega), up_ne (by omega), up_ne (by omega), up_ne (by omega)]
                  rw [this, ec _ (by omega)]
              have hi : ∀ c, 232 ≤ c → teS σ1 r v y (nI so) c = σ c := fun c hc => (hoth c (by omega)).trans (ec c (by omega))
              have eV : teS σ1 r v y (nI so) 244 = σ 244 := hi _ (by decide)
              have eC : teS σ1 r v y (nI so) 250 = σ 250 := hi _ (by decide)
              refine kX_ret (i := .ireturn) (len := 1) rfl (Or.inr rfl) rfl ⟨_, rfl, mg_variable L xs d' _ n b R S C kl _ _ _ _ (aJ_hi hA hi) (fun e => absurd ⟨r, hr, rfl⟩ e) (fun _ e => absurd hM e) (fun r' c1 c2 _ c3 => ?_) (fun r' c1 c2 _ _ c3 => ?_) (fun r' v' as' so' σ2 c1 c2 _ c3 c4 c5 c6 c7 c8 c9 c10 c11 c12 => ?_)⟩
              · rw [eC, uni r' c1 c2] at c3
                exact absurd hcl c3
              · rw [eV, uni r' c1 c2, hvr] at c3
                rcases c3 with c3 | c3
                · have := nI_inj c3
                  omega
                · omega
              · obtain rfl := uni r' c1 c2
                rw [eV, hvr] at c4
                obtain rfl : v = v' := nI_inj c4
                obtain rfl : so = so' := nI_inj c8
                refine ⟨rfl, bJ_va hA hlt hr hcl hvr q3 (τ := teS σ1 r' v y (nI so)) ?_ hJ2 c11 rfl c12⟩
                rw [hs1, c7]
          · have q4 : n = 200 := isB_ne.mp (qeqF q4)
            repeat refine kX_one rfl ?_
            refine kX_ret (i := .ireturn) (len := 1) rfl (Or.inr rfl) rfl (⟨_, rfl, mg_variable L xs d' σ n b R S C kl _ _ _ _ hI (fun e => absurd ⟨r, hr, rfl⟩ e) (fun _ e => absurd hM e) (fun r' c1 c2 _ c3 => absurd hcl (by rw [← uni r' c1 c2]; exact c3)) (fun _ _ _ _ _ _ => ⟨rfl, hb⟩) (fun r' v' as' so' σ1 c1 c2 _ c3 c4 c5 c6 => by omega)⟩)
      · have hcl : σ 250 r ≠ 0 := f3.mp (qeqF q2)
        repeat refine kX_one rfl ?_
        refine kX_ret (i := .ireturn) (len := 1) rfl (Or.inr rfl) rfl (⟨_, rfl, mg_variable L xs d' σ n b R S C kl _ _ _ _ hI (fun e => absurd ⟨r, hr, rfl⟩ e) (fun _ e => absurd hM e) (fun _ _ _ _ _ => ⟨rfl, hb⟩) (fun r' c1 c2 _ c3 => absurd c3 (by rw [uni r' c1 c2]; exact hcl)) (fun r' v' as' so' σ1 c1 c2 _ c3 => absurd c3 (by rw [uni r' c1 c2]; exact hcl))⟩)
  · have q : ¬ isN x R := fun e => isB_ne.mpr e (qneF q)
    repeat refine kX_one rfl ?_
    refine kX_ret (i := .ireturn) (len := 1) rfl (Or.inr rfl) rfl (⟨_, rfl, mg_variable L xs d' σ n b R S C kl _ _ _ _ hI (fun _ => ⟨rfl, hb⟩) (fun e => absurd e q) (fun r' c1 c2 => absurd ⟨r', c1, c2⟩ q) (fun r' c1 c2 => absurd ⟨r', c1, c2⟩ q) (fun r' v' as' so' σ1 c1 c2 => absurd ⟨r', c1, c2⟩ q)⟩)
end
section
/-! alike: ofRole -/
theorem fm_ok2 : ∀ j : Fin 36, 10 ≤ j.1 → jmmv 2 (nI j.1) (Int8.ofInt 10).toInt32 = nI (j.1 % 10) := by decide +kernel
noncomputable def orN (σ : kS) (r j : Nat) : Int32 := if j = 0 then σ 244 r else if j = 1 then σ 247 r else if j = 2 then isB (σ 250 r ≠ 0) else if j < 10 ∨ 5 < j % 10 then -2 else if j / 10 = 3 then (if j % 10 < fN (σ 244 r) then σ 246 (6 * r + j % 10) else -6) else if fN (σ 247 r) ≤ j % 10 then -6 else if j / 10 = 1 then σ 248 (6 * r + j % 10) else isB (σ 249 (6 * r + j % 10) ≠ 0)
noncomputable def orA (σ : kS) (R : Nat) (x w : Int32) : Int32 := cit (isN x R) (cit (isN w 36) (orN σ (fN x) (fN w)) (-2)) (-1)
theorem orA_j {σ : kS} {R r j : Nat} (hr : r < R) (hR : R ≤ 4) (hj : j < 36) : orA σ R (nI r) (nI j) = orN σ r j := by
  unfold orA
  rw [cit_T ⟨r, hr, rfl⟩, cit_T ⟨j, hj, rfl⟩, fN_nI (by omega), fN_nI (by omega)]
theorem orA_2 {σ : kS} {R r : Nat} {w : Int32} (hr : r < R) (hR : R ≤ 4) (h : ∀ j, j < 36 → w = nI j → 3 ≤ j ∧ (j < 10 ∨ 5 < j % 10)) : orA σ R (nI r) w = -2 := by
  by_cases hw : isN w 36
  · obtain ⟨j, j1, rfl⟩ := hw
    obtain ⟨h1, h2⟩ := h j j1 rfl
    rw [orA_j hr hR j1]
    unfold orN
    rw [if_neg (by omega), if_neg (by omega), if_neg (by omega), if_pos h2]
  · unfold orA
    rw [cit_T ⟨r, hr, rfl⟩, cit_F hw]
theorem orN_3 {σ : kS} {r j : Nat} (h1 : 30 ≤ j) (h2 : j ≤ 35) : orN σ r j = if j % 10 < fN (σ 244 r) then σ 246 (6 * r + j % 10) else -6 := by
  unfold orN
  rw [if_neg (by omega), if_neg (by omega), if_neg (by omega), if_neg (by omega), if_pos (by omega)]
theorem orN_e {σ : kS} {r j : Nat} (h1 : 10 ≤ j) (h2 : j < 30) (h3 : j % 10 ≤ 5) : orN σ r j = if fN (σ 247 r) ≤ j % 10 then -6 else if j / 10 = 1 then σ 248 (6 * r + j % 10) else isB (σ 249 (6 * r + j % 10) ≠ 0) := by
  unfold orN
  rw [if_neg (by omega), if_neg (by omega), if_neg (by omega), if_neg (by omega), if_neg (by omega)]
set_option maxRecDepth 100000 in
set_option maxHeartbeats 4000000 in
theorem kt_ofRole (L : Nat) (xs : Nat → Int32) (d : Nat) (σ : kS) (n R S C : Nat) (x w : Int32) (h : cJ σ n R S C) (hA : aR σ R) : kXM kT L xs (d + 2) 137 [.ref 0, .int x, .int w] σ (fun r σ' => r = some (.int (orA σ R x w)) ∧ σ = σ') := by
  have hR := h.2.1
  have hR4 := hR.1
  unfold kXM
  iterate 3 (refine kX_one rfl ?_)
  refine kX_cal (mc_hasRole L xs d σ R x hR4 hR.2.1) rfl (Or.inr rfl) rfl rfl rfl (fun r1 σ1 q1 => ?_)
  obtain ⟨rfl, rfl⟩ := q1
  repeat refine kX_one rfl ?_
  refine kX_if (fun q => ?_) (fun q => ?_)
  · obtain ⟨r, hr, rfl⟩ := isB_ne.mp (qne q)
    have hr4 : r < 4 := by omega
    obtain ⟨v, ev, v1, e1, v2, e2, so1, ev1⟩ := hR.2.2 r hr
    obtain ⟨a1, a2, a3, a4, a5⟩ := hA r hr
    have ev' : fN (σ 244 r) = v := by rw [← a1, v2, fN_nI (by omega)]
    have ee' : fN (σ 247 r) = ev := by rw [← a2, e2, fN_nI (by omega)]
    have k89 : ∀ y : Int32, orA σ R (nI r) w = -2 → kX kT L xs (d + 2) 137 89 [(4, .int y), (3, .ref (23 + 35 * r)), (0, .ref 0), (1, .int (nI r)), (2, .int w)] [] σ (fun q σ' => q = some (.int (orA σ R (nI r) w)) ∧ σ = σ') := by
      intro y hq
      repeat refine kX_one rfl ?_
      refine kX_ret (i := .ireturn) (len := 1) rfl (Or.inr rfl) rfl (⟨rV hq.symm, rfl⟩)
    have k63 : (∀ j, j < 3 → w ≠ nI j) → kX kT L xs (d + 2) 137 63 [(3, .ref (23 + 35 * r)), (0, .ref 0), (1, .int (nI r)), (2, .int w)] [] σ (fun q σ' => q = some (.int (orA σ R (nI r) w)) ∧ σ = σ') := by
      intro hn3
      iterate 6 (refine kX_one rfl ?_)
      repeat refine kX_one rfl ?_
      refine kX_if (fun q2 => ?_) (fun q2 => ?_)
      · have q2 : w < 10 := of_decide_eq_true q2
        refine kX_lv _ rfl rfl rfl (k89 _ (orA_2 hr hR4 (fun j j1 hj => ?_)))
        have : ¬ j < 3 := fun z => hn3 j z hj
        rw [hj, Int32.lt_iff_toInt_lt, nI_toInt (by omega)] at q2
        have e2 : (10 : Int32).toInt = 10 := rfl
        omega
      · have q2 : ¬ w < 10 := of_decide_eq_false q2
        iterate 2 (refine kX_one rfl ?_)
        repeat refine kX_one rfl ?_
        refine kX_if (fun q3 => ?_) (fun q3 => ?_)
        · have q3 : 35 < w := of_decide_eq_true q3
          refine kX_lv _ rfl rfl rfl (k89 _ (orA_2 hr hR4 (fun j j1 hj => ?_)))
          exfalso
          rw [hj, Int32.lt_iff_toInt_lt, nI_toInt (by omega)] at q3
          have e2 : (35 : Int32).toInt = 35 := rfl
          omega
        · have q3 : ¬ 35 < w := of_decide_eq_false q3
          obtain ⟨j, j1, rfl⟩ := nI_of (x := w) (fun z => q2 (by
            rw [Int32.lt_iff_toInt_lt] at z ⊢
            have e1 : (0 : Int32).toInt = 0 := rfl
            have e2 : (10 : Int32).toInt = 10 := rfl
            omega))
          have j2 : 10 ≤ j ∧ j ≤ 35 := by
            rw [Int32.lt_iff_toInt_lt, nI_toInt j1] at q2 q3
            have e1 : (35 : Int32).toInt = 35 := rfl
            have e2 : (10 : Int32).toInt = 10 := rfl
            omega
          have hk2 := fm_ok2 ⟨j, by omega⟩ j2.1
          simp only at hk2
          have eA := orA_j (σ := σ) hr hR4 (show j < 36 by omega)
          iterate 1 (refine kX_one rfl ?_)
          refine kX_top (hk2) ?_
          iterate 1 (refine kX_one rfl ?_)
          repeat refine kX_one rfl ?_
          refine kX_if (fun q4 => ?_) (fun q4 => ?_)
          · have q4 := qle q4 (j % 10) 5
            refine kX_lv [(4, .int (nI (j % 10))), (3, .ref (23 + 35 * r)), (0, .ref 0), (1, .int (nI r)), (2, .int (nI j))] rfl rfl (by rw [← hk2]; rfl) ?_
            iterate 2 (refine kX_one rfl ?_)
            repeat refine kX_one rfl ?_
            refine kX_if (fun q5 => ?_) (fun q5 => ?_)
            · have q5 := qlt q5 j 30
              rw [eA, orN_e j2.1 q5 q4]
              iterate 2 (refine kX_one rfl ?_)
              refine kX_getN rfl rfl (kT_ro hr4) rfl ?_
              refine kX_top (e2) ?_
              repeat refine kX_one rfl ?_
              refine kX_if (fun q6 => ?_) (fun q6 => ?_)
              · have q6 := qlt q6 (j % 10) ev
                obtain ⟨t1, t2, -⟩ := a5 (j % 10) (by omega)
                rw [if_neg (by omega)]
                iterate 2 (refine kX_one rfl ?_)
                repeat refine kX_one rfl ?_
                refine kX_if (fun q7 => ?_) (fun q7 => ?_)
                · have q7 := qge q7 j 20
                  rw [if_neg (by omega)]
                  iterate 1 (refine kX_one rfl ?_)
                  refine kX_getN rfl rfl (kT_ro hr4) rfl ?_
                  iterate 1 (refine kX_one rfl ?_)
                  refine kX_aaldN rfl (kT_re hr4) (by decide) (by decide) (by decide) (j % 10) (by first | rfl | decide) (by omega) (ev_at (by omega)) ?_
                  refine kX_getN rfl rfl (kT_ev hr4 (show j % 10 < 6 by omega)) rfl ?_
                  refine kX_cal (mc_asNumber L xs d σ _) rfl (Or.inr rfl) rfl rfl rfl (fun r1 σ1 q1 => ?_)
                  obtain ⟨rfl, rfl⟩ := q1
                  refine kX_ret (i := .ireturn) (len := 1) rfl (Or.inr rfl) rfl (⟨rV (by rw [propext t2]), rfl⟩)
                · have q7 := qgeF q7 j 20
                  rw [if_pos (by omega)]
                  iterate 1 (refine kX_one rfl ?_)
                  refine kX_getN rfl rfl (kT_ro hr4) rfl ?_
                  iterate 1 (refine kX_one rfl ?_)
                  refine kX_aaldN rfl (kT_re hr4) (by decide) (by decide) (by decide) (j % 10) (by first | rfl | decide) (by omega) (ev_at (by omega)) ?_
                  refine kX_getN rfl rfl (kT_ev hr4 (show j % 10 < 6 by omega)) rfl ?_
                  repeat refine kX_one rfl ?_
                  refine kX_ret (i := .ireturn) (len := 1) rfl (Or.inr rfl) rfl (⟨rV t1, rfl⟩)
              · have q6 := qltF q6 (j % 10) ev
                rw [if_pos (by omega)]
                repeat refine kX_one rfl ?_
                refine kX_ret (i := .ireturn) (len := 1) rfl (Or.inr rfl) rfl (⟨rfl, rfl⟩)
            · have q5 := qltF q5 j 30
              rw [eA, orN_3 q5 j2.2, ev']
              iterate 2 (refine kX_one rfl ?_)
              refine kX_getN rfl rfl (kT_ro hr4) rfl ?_
              refine kX_top (v2) ?_
              repeat refine kX_one rfl ?_
              refine kX_if (fun q6 => ?_) (fun q6 => ?_)
              · have q6 := qge q6 (j % 10) v
                rw [if_neg (by omega)]
                repeat refine kX_one rfl ?_
                refine kX_ret (i := .ireturn) (len := 1) rfl (Or.inr rfl) rfl (⟨rfl, rfl⟩)
              · have q6 := qgeF q6 (j % 10) v
                rw [if_pos q6]
                iterate 1 (refine kX_one rfl ?_)
                refine kX_getN rfl rfl (kT_ro hr4) rfl ?_
                iterate 1 (refine kX_one rfl ?_)
                refine kX_ialdN rfl (kT_ra hr4) (by decide) (j % 10) (by first | rfl | decide) (by omega) ?_
                repeat refine kX_one rfl ?_
                refine kX_ret (i := .ireturn) (len := 1) rfl (Or.inr rfl) rfl (⟨rV (a4 (j % 10) (by omega)).1, rfl⟩)
          · have q4 := qleF q4 (j % 10) 5
            refine kX_lv _ rfl rfl rfl (k89 _ (orA_2 hr hR4 (fun j' j1' hj => ?_)))
            obtain rfl : j = j' := nI_inj hj
            omega
    iterate 4 (refine kX_one rfl ?_)
    refine kX_aaldN rfl (rfl) (by decide) (by decide) (by decide) (r) (by first | rfl | decide) (hr4) (ro_at hr4) ?_
    iterate 1 (refine kX_one rfl ?_)
    repeat refine kX_one rfl ?_
    refine kX_if (fun q2 => ?_) (fun q2 => ?_)
    · have q2 : w < 0 := of_decide_eq_true q2
      refine kX_lv _ rfl rfl rfl (k63 (fun j hj e => ?_))
      rw [e] at q2
      exact nI_pos (by omega) q2
    · have q2 : ¬ w < 0 := of_decide_eq_false q2
      obtain ⟨j, j1, rfl⟩ := nI_of q2
      repeat refine kX_one rfl ?_
      refine kX_if (fun q3 => ?_) (fun q3 => ?_)
      · have q3 := qgt q3 j 2
        refine kX_lv _ rfl rfl rfl (k63 (fun j' hj e => ?_))
        have := nI_inj e
        omega
      · have q3 := qgtF q3 j 2
        have eA := orA_j (σ := σ) hr hR4 (show j < 36 by omega)
        rw [eA]
        repeat refine kX_one rfl ?_
        refine kX_if (fun q4 => ?_) (fun q4 => ?_)
        · have q4 : j ≠ 0 := fun e => qne q4 (by rw [e]; rfl)
          repeat refine kX_one rfl ?_
          refine kX_if (fun q5 => ?_) (fun q5 => ?_)
          · have q5 : j ≠ 1 := fun e => qne q5 (by rw [e]; rfl)
            obtain rfl : j = 2 := by omega
            iterate 1 (refine kX_one rfl ?_)
            refine kX_getN rfl rfl (kT_ro hr4) rfl ?_
            refine kX_cal (mc_asNumber L xs d σ _) rfl (Or.inr rfl) rfl rfl rfl (fun r1 σ1 q1 => ?_)
            obtain ⟨rfl, rfl⟩ := q1
            refine kX_ret (i := .ireturn) (len := 1) rfl (Or.inr rfl) rfl (⟨rV (show _ = isB (σ 250 r ≠ 0) by rw [propext a3]), rfl⟩)
          · obtain rfl : j = 1 := nI_inj (qneF q5)
            iterate 1 (refine kX_one rfl ?_)
            refine kX_getN rfl rfl (kT_ro hr4) rfl ?_
            repeat refine kX_one rfl ?_
            refine kX_ret (i := .ireturn) (len := 1) rfl (Or.inr rfl) rfl (⟨rV a2, rfl⟩)
        · obtain rfl : j = 0 := nI_inj (qneF q4)
          iterate 1 (refine kX_one rfl ?_)
          refine kX_getN rfl rfl (kT_ro hr4) rfl ?_
          repeat refine kX_one rfl ?_
          refine kX_ret (i := .ireturn) (len := 1) rfl (Or.inr rfl) rfl (⟨rV a1, rfl⟩)
  · have q : ¬ isN x R := fun z => isB_ne.mpr z (qneF q)
    repeat refine kX_one rfl ?_
    refine kX_ret (i := .ireturn) (len := 1) rfl (Or.inr rfl) rfl (⟨rV (show _ = orA σ R x w by unfold orA; rw [cit_F q]; rfl), rfl⟩)
set_option maxRecDepth 100000 in
set_option maxHeartbeats 4000000 in
theorem mt_ofRole98 (L : Nat) (xs : Nat → Int32) (d : Nat) (σ : kS) (r m a v ev : Nat) (y : Int32) (hr : r < 4) (hm : m < 6) (hv6 : v ≤ 6) (he6 : ev ≤ 6) (ha : a < 10) (hv : σ 244 r = nI v) (hev : σ 247 r = nI ev) (Q : Option Value → kS → Prop) (hQ : Q (some (.int (if a = 3 then (if m < v then σ 246 (6 * r + m) else -6) else if ev ≤ m then -6 else if a = 1 then σ 248 (6 * r + m) else isB (σ 249 (6 * r + m) ≠ 0)))) σ) : kX kT L xs (d + 1) 225 98 [(4, .int (nI m)), (3, .int (nI a)), (0, .ref 232), (1, .int (nI r)), (2, .int y)] [] σ Q := by
  iterate 5 (refine kX_one rfl ?_)
  refine kX_top (ix6 r m) ?_
  iterate 1 (refine kX_one rfl ?_)
  repeat refine kX_one rfl ?_
  refine kX_if (fun q => ?_) (fun q => ?_)
  · have q : a ≠ 3 := fun e => qne q (by rw [e]; rfl)
    rw [if_neg q] at hQ
    repeat refine kX_one rfl ?_
    refine kX_ialdV rfl rfl (by decide) (r) (by first | rfl | decide) (by omega) (hev) ?_
    repeat refine kX_one rfl ?_
    refine kX_if (fun q => ?_) (fun q => ?_)
    · have q := qlt q m ev
      rw [if_neg (by omega)] at hQ
      repeat refine kX_one rfl ?_
      refine kX_if (fun q => ?_) (fun q => ?_)
      · have q : a ≠ 1 := fun e => qne q (by rw [e]; rfl)
        rw [if_neg q] at hQ
        repeat refine kX_one rfl ?_
        refine kX_baldN rfl rfl (by decide) (6 * r + m) (by first | rfl | decide) (by omega) ?_
        repeat refine kX_one rfl ?_
        refine kX_if (fun q => ?_) (fun q => ?_)
        · rw [isB_F (fun z => z (qeq q))] at hQ
          repeat refine kX_one rfl ?_
          refine kX_ret (i := .ireturn) (len := 1) rfl (Or.inr rfl) rfl (hQ)
        · rw [isB_T (qeqF q)] at hQ
          repeat refine kX_one rfl ?_
          refine kX_ret (i := .ireturn) (len := 1) rfl (Or.inr rfl) rfl (hQ)
      · have q : a = 1 := nI_inj (qneF q)
        rw [if_pos q] at hQ
        repeat refine kX_one rfl ?_
        refine kX_ialdN rfl rfl (by decide) (6 * r + m) (by first | rfl | decide) (by omega) ?_
        repeat refine kX_one rfl ?_
        refine kX_ret (i := .ireturn) (len := 1) rfl (Or.inr rfl) rfl (hQ)
    · have q := qltF q m ev
      rw [if_pos q] at hQ
      repeat refine kX_one rfl ?_
      refine kX_ret (i := .ireturn) (len := 1) rfl (Or.inr rfl) rfl (hQ)
  · have q : a = 3 := nI_inj (qneF q)
    rw [if_pos q] at hQ
    repeat refine kX_one rfl ?_
    refine kX_ialdV rfl rfl (by decide) (r) (by first | rfl | decide) (by omega) (hv) ?_
    repeat refine kX_one rfl ?_
    refine kX_if (fun q => ?_) (fun q => ?_)
    · have q := qge q m v
      rw [if_neg (by omega)] at hQ
      repeat refine kX_one rfl ?_
      refine kX_ret (i := .ireturn) (len := 1) rfl (Or.inr rfl) rfl (hQ)
    · have q := qgeF q m v
      rw [if_pos q] at hQ
      repeat refine kX_one rfl ?_
      refine kX_ialdN rfl rfl (by decide) (6 * r + m) (by first | rfl | decide) (by omega) ?_
      repeat refine kX_one rfl ?_
      refine kX_ret (i := .ireturn) (len := 1) rfl (Or.inr rfl) rfl (hQ)
set_option maxRecDepth 100000 in
set_option maxHeartbeats 4000000 in
theorem mt_ofRole (L : Nat) (xs : Nat → Int32) (d : Nat) (σ : kS) (n b R S C : Nat) (kl : List Nat) (x y : Int32) (h : mI σ n b R S C kl) : kXM kT L xs (d + 2) 225 [.ref 232, .int x, .int y] σ (fun r σ' => r = some (.int (orA σ R x y)) ∧ σ = σ') := by
  have h2 := h.2.1
  have hR4 := h2.1
  unfold kXM
  repeat refine kX_one rfl ?_
  refine kX_cal (mr_isRole L xs d σ R x h2.2.1 (by omega)) rfl (Or.inr rfl) rfl rfl rfl (fun r1 σ1 q1 => ?_)
  obtain ⟨rfl, rfl⟩ := q1
  repeat refine kX_one rfl ?_
  refine kX_if (fun q => ?_) (fun q => ?_)
  · obtain ⟨r, hr, rfl⟩ := isB_ne.mp (qne q)
    obtain ⟨⟨v, hv6, hv⟩, ev, he6, hev⟩ := h2.2.2.1 r hr
    have ev' : fN (σ 244 r) = v := by rw [hv, fN_nI (by omega)]
    have ee' : fN (σ 247 r) = ev := by rw [hev, fN_nI (by omega)]
    repeat refine kX_one rfl ?_
    refine kX_cal (mr_in L xs (d + 1) σ _ _ _) rfl (Or.inr rfl) rfl rfl rfl (fun r1 σ1 q1 => ?_)
    obtain ⟨rfl, rfl⟩ := q1
    rw [isB_dec]
    repeat refine kX_one rfl ?_
    refine kX_if (fun q => ?_) (fun q => ?_)
    · have hn3 : ∀ j, j < 3 → y ≠ nI j := fun j hj e => by
        refine isB_ne.mpr ?_ (qeq q)
        subst e
        have : j = 0 ∨ j = 1 ∨ j = 2 := by omega
        rcases this with rfl | rfl | rfl <;> decide
      repeat refine kX_one rfl ?_
      refine kX_cal (mr_in L xs (d + 1) σ _ _ _) rfl (Or.inr rfl) rfl rfl rfl (fun r1 σ1 q1 => ?_)
      obtain ⟨rfl, rfl⟩ := q1
      rw [isB_dec]
      repeat refine kX_one rfl ?_
      refine kX_if (fun q => ?_) (fun q => ?_)
      · have q := qeq q
        have hq : orA σ R (nI r) y = -2 := orA_2 hr hR4 (fun j j1 hj => by
          have h3 : ¬ j < 3 := fun z => hn3 j z hj
          by_cases h10 : j < 10
          · exact ⟨by omega, Or.inl h10⟩
          · exfalso
            refine isB_ne.mpr ?_ q
            subst hj
            show ¬ (nI j).toInt64 < (nI 10).toInt64 ∧ ¬ (nI 35).toInt64 < (nI j).toInt64
            rw [i64_lt, i64_lt, Int32.lt_iff_toInt_lt, Int32.lt_iff_toInt_lt, nI_toInt (by omega), nI_toInt (by omega), nI_toInt (by omega)]
            omega)
        repeat refine kX_one rfl ?_
        refine kX_ret (i := .ireturn) (len := 1) rfl (Or.inr rfl) rfl (⟨rV hq.symm, rfl⟩)
      · obtain ⟨k, k1, k2, rfl⟩ := in_R (lo := 10) (hi := 35) (by omega) (by omega) (isB_ne.mp (qeqF q)).1 (isB_ne.mp (qeqF q)).2
        rw [dv10 k (by omega), rm10 k (by omega), orA_j hr hR4 (by omega)]
        repeat refine kX_one rfl ?_
        refine kX_if (fun q => ?_) (fun q => ?_)
        · have q := qle q (k % 10) 5
          refine kX_lv _ rfl rfl rfl (mt_ofRole98 L xs (d + 1) σ r (k % 10) (k / 10) v ev (nI k) (by omega) (by omega) hv6 he6 (by omega) hv hev _ ⟨rV ?_, rfl⟩)
          unfold orN
          rw [if_neg (show ¬ k = 0 by omega), if_neg (show ¬ k = 1 by omega), if_neg (show ¬ k = 2 by omega), if_neg (show ¬ (k < 10 ∨ 5 < k % 10) by omega), ev', ee']
        · have q := qleF q (k % 10) 5
          have hq : orN σ r k = -2 := by
            unfold orN
            rw [if_neg (by omega), if_neg (by omega), if_neg (by omega), if_pos (by omega)]
          repeat refine kX_one rfl ?_
          refine kX_ret (i := .ireturn) (len := 1) rfl (Or.inr rfl) rfl (⟨rV hq.symm, rfl⟩)
    · obtain ⟨k, k1, k2, rfl⟩ := in_R (lo := 0) (hi := 2) (by omega) (by omega) (isB_ne.mp (qeqF q)).1 (isB_ne.mp (qeqF q)).2
      rw [orA_j hr hR4 (by omega)]
      repeat refine kX_one rfl ?_
      refine kX_if (fun q => ?_) (fun q => ?_)
      · have q0 : k ≠ 0 := fun e => qne q (by rw [e]; rfl)
        repeat refine kX_one rfl ?_
        refine kX_if (fun q => ?_) (fun q => ?_)
        · have q1 : k ≠ 1 := fun e => qne q (by rw [e]; rfl)
          obtain rfl : k = 2 := by omega
          repeat refine kX_one rfl ?_
          refine kX_baldN rfl rfl (by decide) (r) (by first | rfl | decide) (by omega) ?_
          repeat refine kX_one rfl ?_
          refine kX_if (fun q => ?_) (fun q => ?_)
          · repeat refine kX_one rfl ?_
            refine kX_ret (i := .ireturn) (len := 1) rfl (Or.inr rfl) rfl (⟨rF (fun z => z (qeq q)), rfl⟩)
          · repeat refine kX_one rfl ?_
            refine kX_ret (i := .ireturn) (len := 1) rfl (Or.inr rfl) rfl (⟨rT (qeqF q), rfl⟩)
        · obtain rfl : k = 1 := nI_inj (qneF q)
          repeat refine kX_one rfl ?_
          refine kX_ialdN rfl rfl (by decide) (r) (by first | rfl | decide) (by omega) ?_
          repeat refine kX_one rfl ?_
          refine kX_ret (i := .ireturn) (len := 1) rfl (Or.inr rfl) rfl (⟨rfl, rfl⟩)
      · obtain rfl : k = 0 := nI_inj (qneF q)
        repeat refine kX_one rfl ?_
        refine kX_ialdN rfl rfl (by decide) (r) (by first | rfl | decide) (by omega) ?_
        repeat refine kX_one rfl ?_
        refine kX_ret (i := .ireturn) (len := 1) rfl (Or.inr rfl) rfl (⟨rfl, rfl⟩)
  · have q : ¬ isN x R := fun z => isB_ne.mpr z (qneF q)
    repeat refine kX_one rfl ?_
    refine kX_ret (i := .ireturn) (len := 1) rfl (Or.inr rfl) rfl (⟨rV (show _ = orA σ R x y by unfold orA; rw [cit_F q]; rfl), rfl⟩)
theorem bo_ofRole (L : Nat) (xs : Nat → Int32) (d d' m : Nat) (σ : kS) (x w : Int32) (h : bJ m σ) : kXM kT L xs (d + 2) 137 [.ref 0, .int x, .int w] σ (fun r τ => ∃ z, r = some (.int z) ∧ kXM kT L xs (d' + 2) 225 [.ref 232, .int x, .int w] τ (fun r' ω => r' = some (.int z) ∧ bJ m ω)) := by
  have hb := h
  obtain ⟨n, b, R, S, C, kl, h⟩ := h
  exact bo_same hb (kt_ofRole L xs d σ n R S C x w h.2.1 h.2.2.2.1) (mt_ofRole L xs d' σ n b R S C kl x w h.1)
end
section
/-! alike: session, the class's loop -/
/-- what VARIABLE k stands for at first -/
def ssV (σ : kS) (n r : Nat) (a b c : Int32) (k : Nat) : Int32 := if σ 246 (6 * r + k) = nI 0 then (if hma σ r 0 k = 0 then a else if hma σ r 0 k = 1 then b else c) else if σ 246 (6 * r + k) = nI 1 then nI (n + hma σ r 1 k) else -6
/-- kinds of the new ATOMS -/
def seN (σ : kS) (K : Nat → Int32) (n r v : Nat) : Prop := ∀ k, k < v → σ 246 (6 * r + k) = nI 1 → K (n + hma σ r 1 k) = σ 240 (fN (σ 245 (6 * r + k)))
theorem hma_at (σ : kS) (r : Nat) : ∀ v t, t < hma σ r 1 v → ∃ k, k < v ∧ σ 246 (6 * r + k) = nI 1 ∧ hma σ r 1 k = t
  | 0, t, h => absurd h (Nat.not_lt_zero t)
  | v + 1, t, h => by
    rw [hma] at h
    by_cases q : t < hma σ r 1 v
    · obtain ⟨k, k1, k2, k3⟩ := hma_at σ r v t q
      exact ⟨k, by omega, k2, k3⟩
    · by_cases e : σ 246 (6 * r + v) = nI 1
      · rw [if_pos e] at h
        exact ⟨v, by omega, e, by omega⟩
      · rw [if_neg e] at h
        omega
/-- what the class's loop has done -/
def nsF (σ τ : kS) (n n' S r vc v : Nat) (a b c ho : Int32) : Prop := n' = n + hma σ r 1 (min v vc) ∧
  (∀ t, t < n → τ 2 t = σ 2 t ∧ τ 3 t = σ 3 t ∧ τ 4 t = σ 4 t ∧ τ 5 t = σ 5 t ∧ τ 8 t = σ 8 t ∧ τ 9 t = σ 9 t ∧ τ 10 t = σ 10 t ∧ τ 11 t = σ 11 t ∧ τ 12 t = σ 12 t) ∧
  (∀ t, n ≤ t → t < n' → τ 3 t = -1 ∧ τ 4 t = -1 ∧ τ 5 t = 1 ∧ τ 8 t = 1) ∧ seN σ (τ 2) n r (min v vc) ∧ cCn τ n' ∧ τ 17 (7 * S) = 0 ∧ (∀ k, k < v → nnI (τ 17 (7 * S + 1 + k)) = if k < vc then ssV σ n r a b c k else -6) ∧ (ho ≠ 0 ↔ ∀ k, k < v → k < vc → σ 246 (6 * r + k) = 0 → σ 238 (fN (ssV σ n r a b c k)) ≠ 0)
theorem cnt_hma {σ : kS} {r v vc : Nat} (h : ∀ k, k < vc → σ (24 + 35 * r) k = σ 246 (6 * r + k)) (hv : v ≤ vc) : cnt (fun k => σ (24 + 35 * r) k = 0) v = hma σ r 0 v := by
  induction v with
  | zero => rfl
  | succ v ih =>
    rw [cnt, hma, ih (by omega)]
    by_cases q : σ (24 + 35 * r) v = 0
    · rw [if_pos q, if_pos (by rw [← h v (by omega)]; exact q)]
    · rw [if_neg q, if_neg (by rw [← h v (by omega)]; exact q)]
theorem nsF_step {σ τ τ2 : kS} {n n' n2 S r vc v : Nat} {a b c ho ho2 w : Int32} (h : nsF σ τ n n' S r vc v a b c ho) (hr : ∀ t, t < n' → τ2 2 t = τ 2 t ∧ τ2 3 t = τ 3 t ∧ τ2 4 t = τ 4 t ∧ τ2 5 t = τ 5 t ∧ τ2 8 t = τ 8 t ∧ τ2 9 t = τ 9 t ∧ τ2 10 t = τ 10 t ∧ τ2 11 t = τ 11 t ∧ τ2 12 t = τ 12 t) (hn2 : n2 = n + hma σ r 1 (min (v + 1) vc)) (hnew : ∀ t, n' ≤ t → t < n2 → τ2 3 t = -1 ∧ τ2 4 t = -1 ∧ τ2 5 t = 1 ∧ τ2 8 t = 1) (hK : v < vc → σ 246 (6 * r + v) = nI 1 → τ2 2 (n + hma σ r 1 v) = σ 240 (fN (σ 245 (6 * r + v)))) (hC : cCn τ2 n2) (eo : τ2 17 = τ 17) (hw : nnI w = if v < vc then ssV σ n r a b c v else -6) (hho : ho2 ≠ 0 ↔ ho ≠ 0 ∧ (v < vc → σ 246 (6 * r + v) = 0 → σ 238 (fN (ssV σ n r a b c v)) ≠ 0)) : nsF σ (va_up τ2 17 (upd (τ2 17) (7 * S + 1 + v) w)) n n2 S r vc (v + 1) a b c ho2 := by
  obtain ⟨h1, h2, h3, h4, h5, h6, h7, h8⟩ := h
  have hnn : n ≤ n' := by omega
  refine ⟨hn2, fun t ht => ?_, fun t t1 t2 => ?_, fun k hk ha => ?_, ?_, ?_, fun k hk => ?_, ?_⟩
  · obtain ⟨a1, a2, a3, a4, a5, a6, a7, a8, a9⟩ := hr t (by omega)
    obtain ⟨b1, b2, b3, b4, b5, b6, b7, b8, b9⟩ := h2 t ht
    exact ⟨a1.trans b1, a2.trans b2, a3.trans b3, a4.trans b4, a5.trans b5, a6.trans b6, a7.trans b7, a8.trans b8, a9.trans b9⟩
  · by_cases q : t < n'
    · obtain ⟨a1, a2, a3, a4, a5, -⟩ := hr t q
      obtain ⟨b1, b2, b3, b4⟩ := h3 t t1 q
      exact ⟨a2.trans b1, a3.trans b2, a4.trans b3, a5.trans b4⟩
    · exact hnew t (by omega) t2
  · show τ2 2 (n + hma σ r 1 k) = _
    by_cases e : k = v
    · subst e
      exact hK (by omega) ha
    · have hk2 : k < min v vc := by omega
      have hlt : hma σ r 1 k < hma σ r 1 (min v vc) := by
        have := hma_mono σ r 1 (show k + 1 ≤ min v vc by omega)
        rw [hma, if_pos ha] at this
        omega
      rw [(hr _ (by omega)).1]
      exact h4 k hk2 ha
  · unfold cCn cpt at hC ⊢
    exact hC
  · show upd (τ2 17) (7 * S + 1 + v) w (7 * S) = 0
    rw [pk_un (by omega), eo]
    exact h6
  · show nnI (upd (τ2 17) (7 * S + 1 + v) w (7 * S + 1 + k)) = _
    by_cases e : k = v
    · subst e
      rw [pk_us]
      exact hw
    · rw [pk_un (by omega), eo]
      exact h7 k (by omega)
  · rw [hho, h8]
    constructor
    · rintro ⟨q1, q2⟩ k hk
      by_cases e : k = v
      · subst e
        exact q2
      · exact q1 k (by omega)
    · intro q
      exact ⟨fun k hk => q k (by omega), q v (by omega)⟩
theorem rows_refl (τ : kS) (n' : Nat) : ∀ t, t < n' → τ 2 t = τ 2 t ∧ τ 3 t = τ 3 t ∧ τ 4 t = τ 4 t ∧ τ 5 t = τ 5 t ∧ τ 8 t = τ 8 t ∧ τ 9 t = τ 9 t ∧ τ 10 t = τ 10 t ∧ τ 11 t = τ 11 t ∧ τ 12 t = τ 12 t := fun _ _ => ⟨rfl, rfl, rfl, rfl, rfl, rfl, rfl, rfl, rfl⟩
set_option maxRecDepth 100000 in
set_option maxHeartbeats 4000000 in
theorem mf_nsLoop (L : Nat) (xs : Nat → Int32) (d : Nat) (σ : kS) (n R S C r vc : Nat) (a b c : Int32) (h : cJ σ n R S C) (hS : S < 4) (hr : r < R) (hv6 : vc ≤ 6) (hvc : σ (23 + 35 * r) 3 = nI vc) (hso : ∀ k, k < vc → ∃ so, so ≤ 3 ∧ σ (25 + 35 * r) k = nI so ∧ (σ (24 + 35 * r) k = 1 → so ≤ 2)) (hP : cnt (fun k => σ (24 + 35 * r) k = 0) vc ≤ 3) (ha : 1 ≤ cnt (fun k => σ (24 + 35 * r) k = 0) vc → gV σ n a) (hb : 2 ≤ cnt (fun k => σ (24 + 35 * r) k = 0) vc → gV σ n b) (hc : 3 ≤ cnt (fun k => σ (24 + 35 * r) k = 0) vc → gV σ n c) (hM : mRo σ n R) (hAr : aR σ R) (hAt : aT σ n) (hn200 : n + hma σ r 1 vc ≤ 200) (hga : ∀ i, i < hma σ r 0 vc → ∃ z, z < n ∧ (if i = 0 then a else if i = 1 then b else c) = nI z ∧ σ 233 z = nI 0) (Q : Option Value → kS → Prop)
    (he : ∀ τ n' (ho : Int32), (ho = 0 ∨ ho = 1) → nsI σ τ n n' S 6 → nsF σ τ n n' S r vc 6 a b c ho → kX kT L xs (d + 5) 14 197 [(8, .int ho), (0, .ref 13), (1, .int (nI r)), (5, .ref (23 + 35 * r))] [] τ Q) :
    ∀ q : Nat × kS × Nat × Int32, (q.1 ≤ 6 ∧ (q.2.2.2 = 0 ∨ q.2.2.2 = 1) ∧ nsI σ q.2.1 n q.2.2.1 S q.1 ∧ nsF σ q.2.1 n q.2.2.1 S r vc q.1 a b c q.2.2.2) → kX kT L xs (d + 5) 14 53 [(9, .int (nI q.1)), (8, .int q.2.2.2), (7, .int (nI (cnt (fun k => σ (24 + 35 * r) k = 0) (min q.1 vc)))), (6, .int (nI (S * 7))), (0, .ref 13), (1, .int (nI r)), (2, .int a), (3, .int b), (4, .int c), (5, .ref (23 + 35 * r))] [] q.2.1 Q := by
  have hR4 := h.2.1.1
  obtain ⟨ar1, ar2, ar3, ar4, ar5⟩ := hAr r hr
  have hvr : fN (σ 244 r) = vc := by rw [← ar1, hvc, fN_nI (by omega)]
  have h24 : ∀ k, k < vc → σ (24 + 35 * r) k = σ 246 (6 * r + k) := fun k hk => (ar4 k (by omega)).1
  have hr4 : r < 4 := by omega
  refine kX_while (fun q : Nat × kS × Nat × Int32 => [(9, .int (nI q.1)), (8, .int q.2.2.2), (7, .int (nI (cnt (fun k => σ (24 + 35 * r) k = 0) (min q.1 vc)))), (6, .int (nI (S * 7))), (0, .ref 13), (1, .int (nI r)), (2, .int a), (3, .int b), (4, .int c), (5, .ref (23 + 35 * r))]) (fun q => q.2.1) _ (fun q => 6 - q.1) ?_
  rintro ⟨v, τ, n', ho⟩ ⟨i1, i2, i3, i4⟩ ih
  dsimp only at i1 i2 i3 i4 ih ⊢
  have hT := i3.2.1
  have hn' := hT.1
  have e0 : τ (23 + 35 * r) = σ (23 + 35 * r) := nsI_c i3 (fun q => by have := tC_lt q; omega) (by omega)
  have e24 : τ (24 + 35 * r) = σ (24 + 35 * r) := nsI_c i3 (fun q => by have := tC_lt q; omega) (by omega)
  have e25 : τ (25 + 35 * r) = σ (25 + 35 * r) := nsI_c i3 (fun q => by have := tC_lt q; omega) (by omega)
  have hvc' : τ (23 + 35 * r) 3 = nI vc := by rw [e0]; exact hvc
  repeat refine kX_one rfl ?_
  refine kX_if (fun q => ?_) (fun q => ?_)
  · have q := qge q v 6
    obtain rfl : v = 6 := by omega
    exact kX_lv _ rfl rfl rfl (he τ n' ho i2 i3 i4)
  · have q := qgeF q v 6
    have k177 : ∀ τ2 n2 (ho2 w : Int32) p, (ho2 = 0 ∨ ho2 = 1) → nsI σ τ2 n n2 S v → (nsF σ (va_up τ2 17 (upd (τ2 17) (7 * S + 1 + v) w)) n n2 S r vc (v + 1) a b c ho2) → gV τ2 n2 w → p = cnt (fun k => σ (24 + 35 * r) k = 0) (min (v + 1) vc) → kX kT L xs (d + 5) 14 177 [(10, .int w), (9, .int (nI v)), (8, .int ho2), (7, .int (nI p)), (6, .int (nI (S * 7))), (0, .ref 13), (1, .int (nI r)), (2, .int a), (3, .int b), (4, .int c), (5, .ref (23 + 35 * r))] [] τ2 Q := by
      intro τ2 n2 ho2 w p ho3 j1 j0 j2 j3
      subst j3
      iterate 8 (refine kX_one rfl ?_)
      refine kX_iastN rfl rfl (by decide) (7 * S + 1 + v) (ixo S v) (by omega) ?_
      iterate 2 (refine kX_one rfl ?_)
      have := ih (v + 1, va_up τ2 17 (upd (τ2 17) (7 * S + 1 + v) w), n2, ho2) ⟨q, ho3, ⟨j1.1, ?_, ?_, fun j hj => ?_, fun k hk => ?_⟩, j0⟩ (by simp only; omega)
      · dsimp only at this
        rw [← nI_1] at this
        exact kX_lv _ rfl rfl rfl this
      · exact cT_eq rfl rfl (fun u _ => ⟨rfl, rfl, rfl, rfl, rfl, rfl⟩) j1.2.1
      · simp only
        have : va_up (va_up τ2 17 (upd (τ2 17) (7 * S + 1 + v) w)) 17 (σ 17) = va_up τ2 17 (σ 17) := kup_up _ _ _ _
        rw [this]
        exact j1.2.2.1
      · simp only
        rw [up_eq, pk_un (by omega)]
        exact j1.2.2.2.1 j hj
      · simp only at hk ⊢
        rw [up_eq]
        show gV τ2 n2 _
        by_cases e : k = v
        · subst e
          rw [pk_us]
          exact j2
        · rw [pk_un (by omega)]
          exact j1.2.2.2.2 k (by omega)
    iterate 4 (refine kX_one rfl ?_)
    refine kX_cal (mc_roHas L xs (d + 3) τ r vc (nI v) hr4 hv6 hvc') rfl (Or.inr rfl) rfl (jcall_v rfl rfl rfl (kT_ro hr4) rfl rfl) rfl (fun r1 σ1 q1 => ?_)
    obtain ⟨rfl, rfl⟩ := q1
    by_cases hvv : v < vc
    · rw [isB_T ⟨v, hvv, rfl⟩]
      have hmin : min v vc = v := by omega
      have hmin2 : min (v + 1) vc = v + 1 := by omega
      rw [hmin]
      rw [hmin2] at k177
      obtain ⟨so, so1, so2, so3⟩ := hso v hvv
      obtain ⟨tv, sv, asv, w1, w2, w3, w4, w5, w6, w7, w8, w9, w10, w11⟩ := hM.2.2.2.1 r v hr (by omega)
      have hsort : σ 240 (fN (σ 245 (6 * r + v))) = nI so := (ar4 v (by omega)).2.1.symm.trans so2
      have hstep : ∀ a, hma σ r a (v + 1) = hma σ r a v + if σ 246 (6 * r + v) = nI a then 1 else 0 := fun a => rfl
      have en' : n' = n + hma σ r 1 v := by rw [i4.1, hmin]
      have hcs : cnt (fun k => σ (24 + 35 * r) k = 0) (v + 1) ≤ cnt (fun k => σ (24 + 35 * r) k = 0) vc := cnt_mono2 hvv
      iterate 2 (refine kX_one rfl ?_)
      refine kX_getN rfl rfl (kT_ro hr4) rfl ?_
      iterate 1 (refine kX_one rfl ?_)
      refine kX_ialdN rfl (kT_ra hr4) (by decide) (v) (by first | rfl | decide) (q) ?_
      repeat refine kX_one rfl ?_
      refine kX_if (fun q2 => ?_) (fun q2 => ?_)
      · have q2 : σ (24 + 35 * r) v ≠ 0 := by
          have := qne q2
          rw [e24] at this
          exact this
        have hc0 : cnt (fun k => σ (24 + 35 * r) k = 0) v = cnt (fun k => σ (24 + 35 * r) k = 0) (v + 1) := by
          rw [cnt, if_neg q2]
          rfl
        rw [hc0]
        iterate 2 (refine kX_one rfl ?_)
        refine kX_cal (mc_roHas L xs (d + 3) τ r vc (nI v) hr4 hv6 hvc') rfl (Or.inr rfl) rfl (jcall_v rfl rfl rfl (kT_ro hr4) rfl rfl) rfl (fun r1 σ1 q1 => ?_)
        obtain ⟨rfl, rfl⟩ := q1
        rw [isB_T ⟨v, hvv, rfl⟩]
        iterate 2 (refine kX_one rfl ?_)
        refine kX_getN rfl rfl (kT_ro hr4) rfl ?_
        iterate 1 (refine kX_one rfl ?_)
        refine kX_ialdN rfl (kT_ra hr4) (by decide) (v) (by first | rfl | decide) (q) ?_
        iterate 1 (refine kX_one rfl ?_)
        repeat refine kX_one rfl ?_
        refine kX_if (fun q3 => ?_) (fun q3 => ?_)
        · have q3 : σ (24 + 35 * r) v ≠ 1 := by
            have := qne q3
            rw [e24] at this
            exact this
          rw [h24 v hvv] at q2 q3
          have hz0 : ¬ σ 246 (6 * r + v) = nI 0 := q2
          have hz1 : ¬ σ 246 (6 * r + v) = nI 1 := q3
          have e1 : hma σ r 1 (v + 1) = hma σ r 1 v := by rw [hstep, if_neg hz1, Nat.add_zero]
          refine kX_lv _ rfl rfl rfl (k177 τ n' ho (-1) _ i2 i3 (nsF_step i4 (rows_refl τ n') (by rw [hmin2, e1, en']) (fun t t1 t2 => by omega) (fun _ z => absurd z hz1) i4.2.2.2.2.1 rfl ?_ ⟨fun z => ⟨z, fun _ e => absurd e hz0⟩, fun z => z.1⟩) (Or.inl rfl) rfl)
          rw [if_pos hvv, ssV, if_neg hz0, if_neg hz1]
          rfl
        · have q3 : σ (24 + 35 * r) v = 1 := by
            have := qneF q3
            rw [e24] at this
            exact this
          iterate 3 (refine kX_one rfl ?_)
          refine kX_getN rfl rfl (kT_ro hr4) rfl ?_
          iterate 1 (refine kX_one rfl ?_)
          refine kX_ialdV rfl (kT_rs hr4) (by decide) (v) (by first | rfl | decide) (q) ((congrFun e25 v).trans so2) ?_
          iterate 1 (refine kX_one rfl ?_)
          have hz1 : σ 246 (6 * r + v) = nI 1 := (h24 v hvv).symm.trans q3
          have hz0 : ¬ σ 246 (6 * r + v) = nI 0 := fun z => absurd (z.symm.trans hz1) (by decide)
          have e1 : hma σ r 1 (v + 1) = hma σ r 1 v + 1 := by rw [hstep, if_pos hz1]
          have hlt : n' < 200 := by
            have := hma_mono σ r 1 (show v + 1 ≤ vc from hvv)
            omega
          refine kX_cal (mf_newAtom L xs d τ n' so 0 hT (so3 q3) (Or.inl rfl) hlt) rfl (Or.inr rfl) rfl rfl rfl (fun r1 τ2 q1 => ?_)
          obtain ⟨rfl, hτ2⟩ := q1
          obtain ⟨g1, g2⟩ := cT_at (k := so) (b := 0) hT hlt (so3 q3)
          rw [← hτ2] at g1 g2
          have g3 : τ2 8 n' = 1 := by rw [hτ2]; exact pk_us
          have hF2 : nsF σ (va_up τ2 17 (upd (τ2 17) (7 * S + 1 + v) (nI n'))) n (n' + 1) S r vc (v + 1) a b c ho := by
            refine nsF_step i4 (fun t ht => ?_) (by rw [hmin2, e1, en']; omega) (fun t t1 t2 => ?_) (fun _ _ => ?_) ?_ (g2.1 _ (by decide)) ?_ ⟨fun z => ⟨z, fun _ e => absurd e hz0⟩, fun z => z.1⟩
            · rw [hτ2]
              exact ⟨pk_un (by omega), pk_un (by omega), pk_un (by omega), pk_un (by omega), pk_un (by omega), (pk_un (by omega)).trans (pk_un (by omega)), rfl, rfl, rfl⟩
            · obtain rfl : t = n' := by omega
              rw [hτ2]
              exact ⟨pk_us, pk_us, pk_us, pk_us⟩
            · rw [hτ2, ← en', hsort]
              exact pk_us
            · rw [hτ2]
              exact cCn_0 (k := so) i4.2.2.2.2.1 (fun t ht => ⟨pk_un (by omega), pk_un (by omega), pk_un (by omega)⟩) pk_us so1 rfl rfl
            · rw [if_pos hvv, ssV, if_neg hz0, if_pos hz1, ← en']
              exact if_neg (nI_m1 (by omega))
          · iterate 1 (refine kX_one rfl ?_)
            refine kX_lv _ rfl rfl rfl (k177 τ2 (n' + 1) ho (nI n') _ i2 ⟨by have := i3.1; omega, g1, ?_, fun j hj => ?_, fun k hk => ?_⟩ hF2 (Or.inr ⟨n', by omega, rfl, g3⟩) rfl)
            · have hG := i3.2.2.1
              have h17 := g2.1 17 (by decide)
              refine ⟨fun c hc => ?_, fun u hu => ?_, fun g hg => ?_⟩
              · by_cases e : c = 17
                · subst e
                  rw [up_eq]
                · rw [up_ne e, g2.1 c hc]
                  have := hG.1 c hc
                  rw [up_ne e] at this
                  exact this
              · exact (g2.2.1 u (by have := i3.1; omega)).trans (hG.2.1 u hu)
              · have := hG.2.2 g hg
                have g4 := g2.2.2 g hg
                exact ⟨g4.1.trans this.1, g4.2.1.trans this.2.1, g4.2.2.1.trans this.2.2.1, g4.2.2.2.trans this.2.2.2⟩
            · rw [g2.1 17 (by decide)]
              exact i3.2.2.2.1 j hj
            · rw [g2.1 17 (by decide)]
              exact gV_up (by omega) g2.2.1 (i3.2.2.2.2 k hk)
      · have q2 : σ (24 + 35 * r) v = 0 := by
          have := qneF q2
          rw [e24] at this
          exact this
        have hc1 : cnt (fun k => σ (24 + 35 * r) k = 0) (v + 1) = cnt (fun k => σ (24 + 35 * r) k = 0) v + 1 := by
          rw [cnt, if_pos q2]
        have hz0 : σ 246 (6 * r + v) = nI 0 := (h24 v hvv).symm.trans q2
        have hz1 : ¬ σ 246 (6 * r + v) = nI 1 := fun z => absurd (hz0.symm.trans z) (by decide)
        have e1 : hma σ r 1 (v + 1) = hma σ r 1 v := by rw [hstep, if_neg hz1, Nat.add_zero]
        have ep : hma σ r 0 v = cnt (fun k => σ (24 + 35 * r) k = 0) v := (cnt_hma h24 (by omega)).symm
        have epv : hma σ r 0 v < hma σ r 0 vc := by
          have := hma_mono σ r 0 (show v + 1 ≤ vc from hvv)
          rw [hstep, if_pos hz0] at this
          omega
        obtain ⟨z0, z1, z2, z3⟩ := hga _ epv
        have hss : ssV σ n r a b c v = nI z0 := by
          rw [ssV, if_pos hz0]
          exact z2
        rw [ep] at z2
        rw [hc1] at k177 hcs
        generalize hp : cnt (fun k => σ (24 + 35 * r) k = 0) v = p at *
        have hgv : ∀ w, gV σ n w → gV τ n' w := fun w hw => gV_up i3.1 (fun z hz => i3.2.2.1.2.1 z hz) hw
        have k105 : ∀ w, w = nI z0 → gV σ n w → kX kT L xs (d + 5) 14 105 [(10, .int (-1)), (9, .int (nI v)), (8, .int ho), (7, .int (nI p)), (6, .int (nI (S * 7))), (0, .ref 13), (1, .int (nI r)), (2, .int a), (3, .int b), (4, .int c), (5, .ref (23 + 35 * r))] [.int w] τ Q := by
          intro w hwz hw
          have k129 : ∀ ho2 : Int32, (ho2 = 0 ∨ ho2 = 1) → (ho2 ≠ 0 ↔ ho ≠ 0 ∧ σ 238 z0 ≠ 0) → kX kT L xs (d + 5) 14 129 [(10, .int w), (9, .int (nI v)), (8, .int ho), (7, .int (nI p)), (6, .int (nI (S * 7))), (0, .ref 13), (1, .int (nI r)), (2, .int a), (3, .int b), (4, .int c), (5, .ref (23 + 35 * r))] [.int ho2] τ Q := by
            intro ho2 hh hhq
            iterate 3 (refine kX_one rfl ?_)
            have hF2 : nsF σ (va_up τ 17 (upd (τ 17) (7 * S + 1 + v) w)) n n' S r vc (v + 1) a b c ho2 := by
              refine nsF_step i4 (rows_refl τ n') (by rw [hmin2, e1, en']) (fun t t1 t2 => by omega) (fun _ z => absurd z hz1) i4.2.2.2.2.1 rfl ?_ ?_
              · rw [if_pos hvv, hss, hwz]
                exact if_neg (nI_m1 (by omega))
              · rw [hhq, hss, fN_nI (by omega)]
                exact ⟨fun z => ⟨z.1, fun _ _ => z.2⟩, fun z => ⟨z.1, z.2 hvv hz0⟩⟩
            have := k177 τ n' ho2 w (p + 1) hh i3 hF2 (hgv w hw) rfl
            rw [← nI_1] at this
            exact kX_lv _ rfl rfl rfl this
          iterate 2 (refine kX_one rfl ?_)
          repeat refine kX_one rfl ?_
          refine kX_if (fun q3 => ?_) (fun q3 => ?_)
          · have q3 := qeq q3
            iterate 1 (refine kX_one rfl ?_)
            exact kX_lv _ rfl rfl rfl (k129 0 (Or.inl rfl) ⟨fun z => absurd rfl z, fun z => absurd q3 z.1⟩)
          · have q3 := qeqF q3
            have hz200 : z0 < n' := by omega
            obtain ⟨r1, -, -, -, -, r6, -⟩ := i4.2.1 z0 z1
            have a1 := hAt.1 z0 z1
            have hhz : (∃ t, t < n' ∧ w = nI t ∧ τ 2 t = 0 ∧ τ 9 t ≠ 0) ↔ σ 238 z0 ≠ 0 := by
              constructor
              · rintro ⟨t, t1, t2, t3, t4⟩
                obtain rfl : z0 = t := nI_inj (hwz.symm.trans t2)
                rw [r6, a1.2.2.2.2.2.1 z3] at t4
                exact t4
              · intro z
                exact ⟨z0, hz200, hwz, by rw [r1, a1.1]; exact z3, by rw [r6, a1.2.2.2.2.2.1 z3]; exact z⟩
            iterate 3 (refine kX_one rfl ?_)
            refine kX_cal (mc_isHonest L xs (d + 1) τ n' w hn' hT.2.1) rfl (Or.inr rfl) rfl rfl rfl (fun r1 σ1 q1 => ?_)
            obtain ⟨rfl, rfl⟩ := q1
            repeat refine kX_one rfl ?_
            refine kX_if (fun q4 => ?_) (fun q4 => ?_)
            · have q4 : ¬ σ 238 z0 ≠ 0 := fun z => isB_ne.mpr (hhz.mpr z) (qeq q4)
              iterate 1 (refine kX_one rfl ?_)
              exact kX_lv _ rfl rfl rfl (k129 0 (Or.inl rfl) ⟨fun z => absurd rfl z, fun z => absurd z.2 q4⟩)
            · have q4 : σ 238 z0 ≠ 0 := hhz.mp (isB_ne.mp (qeqF q4))
              iterate 2 (refine kX_one rfl ?_)
              exact kX_lv _ rfl rfl rfl (k129 1 (Or.inr rfl) ⟨fun _ => ⟨q3, q4⟩, fun _ => by decide⟩)
        repeat refine kX_one rfl ?_
        refine kX_if (fun q3 => ?_) (fun q3 => ?_)
        · have q3 : p ≠ 0 := fun e => qne q3 (by rw [e]; rfl)
          repeat refine kX_one rfl ?_
          refine kX_if (fun q4 => ?_) (fun q4 => ?_)
          · have q4 : p ≠ 1 := fun e => qne q4 (by rw [e]; rfl)
            iterate 1 (refine kX_one rfl ?_)
            exact kX_lv _ rfl rfl rfl (k105 c (by rw [if_neg q3, if_neg q4] at z2; exact z2) (hc (by omega)))
          · have q4 : p = 1 := nI_inj (qneF q4)
            iterate 2 (refine kX_one rfl ?_)
            exact kX_lv _ rfl rfl rfl (k105 b (by rw [if_neg q3, if_pos q4] at z2; exact z2) (hb (by omega)))
        · have q3 : p = 0 := nI_inj (qneF q3)
          iterate 2 (refine kX_one rfl ?_)
          exact kX_lv _ rfl rfl rfl (k105 a (by rw [if_pos q3] at z2; exact z2) (ha (by omega)))
    · rw [isB_F (fun z => by obtain ⟨j, j1, j2⟩ := z; have := nI_inj j2; omega)]
      have hmin : min v vc = vc := by omega
      have hmin2 : min (v + 1) vc = vc := by omega
      rw [hmin]
      rw [hmin2] at k177
      iterate 3 (refine kX_one rfl ?_)
      refine kX_cal (mc_roHas L xs (d + 3) τ r vc (nI v) hr4 hv6 hvc') rfl (Or.inr rfl) rfl (jcall_v rfl rfl rfl (kT_ro hr4) rfl rfl) rfl (fun r1 σ1 q1 => ?_)
      obtain ⟨rfl, rfl⟩ := q1
      rw [isB_F (fun z => by obtain ⟨j, j1, j2⟩ := z; have := nI_inj j2; omega)]
      iterate 1 (refine kX_one rfl ?_)
      refine kX_lv _ rfl rfl rfl (k177 τ n' ho (-1) _ i2 i3 (nsF_step i4 (rows_refl τ n') (by rw [hmin2, i4.1, hmin]) (fun t t1 t2 => by omega) (fun z => absurd z hvv) i4.2.2.2.2.1 rfl ?_ ⟨fun z => ⟨z, fun e => absurd e hvv⟩, fun z => z.1⟩) (Or.inl rfl) rfl)
      rw [if_neg hvv]
      rfl
end
