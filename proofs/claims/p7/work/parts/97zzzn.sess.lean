/-! alike: session -/
theorem ssV_eq {σ τ : kS} (e : τ 246 = σ 246) (n r : Nat) (a b c : Int32) (k : Nat) : ssV τ n r a b c k = ssV σ n r a b c k := by
  unfold ssV
  rw [hma_eq e, hma_eq e, e]
theorem seN_eq {σ τ : kS} {K : Nat → Int32} {n r v : Nat} (e1 : τ 246 = σ 246) (e2 : τ 240 = σ 240) (e3 : τ 245 = σ 245) (h : seN τ K n r v) : seN σ K n r v := fun k hk ha => by
  have := h k hk (by rw [e1]; exact ha)
  rw [hma_eq e1, e2, e3] at this
  exact this
theorem aM_eq2 {σ ω : kS} {m : Nat} (e : ∀ c, 186 ≤ c → c < 222 → c ≠ 195 → c ≠ 196 → c ≠ 201 → ω c = σ c) (h : aM σ m) : aM ω m := by
  obtain ⟨m1, m2, m3, a1, a2, a3, a4, a5, a6⟩ := h
  exact ⟨m1, m2, m3, a1, a2, a3, kMs_eq (fun c c1 c2 => e c (by omega) (by omega) (by omega) (by omega) (by omega)) a4, kMs_eq (fun c c1 c2 => e c (by omega) (by omega) (by omega) (by omega) (by omega)) a5, kMs_eq (fun c c1 c2 => e c (by omega) (by omega) (by omega) (by omega) (by omega)) a6⟩
/-- one SESSION more on both sides -/
theorem bJ_se {σ ρ τ τ' ω : kS} {n b n2 b' R S C m r v : Nat} {kl : List Nat} {a1 a2 a3 : Int32} (h : aJ σ n b R S C kl m) (hr : r < R) (hv6 : v ≤ 6) (hv : σ 244 r = nI v) (hS : S < 4) (hrn : σ 232 52 = 0) (h03 : hma σ r 0 v ≤ 3) (hpg : parG σ n (hma σ r 0 v) a1 a2 a3) (hf : ρ 196 5 = 0 ∧ ρ 195 9 = -1 ∧ ρ 195 10 = 0 ∧ ρ 195 11 = 0 ∧ ∀ c, c ≠ 195 → c ≠ 196 → c ≠ 201 → ρ c = σ c) (hP : nsP ρ τ n R S C r v a1 a2 a3) (hn2 : n2 = n + hma σ r 1 v) (hn200 : n2 ≤ 200) (hL : mLow τ τ') (hR : seR τ τ' n n2 S r v a1 a2 a3) (hω : ω = va_up (seS τ' S r) 232 (fgO (seS τ' S r 232))) (hI : mI ω n2 b' R (S + 1) C kl) : bJ m ω := by
  obtain ⟨i, j, tt, ar, as, ac, k, u, f, mm⟩ := h
  have hR4 := i.2.1.1
  obtain ⟨f1, f2, f3, f4, f5⟩ := hf
  obtain ⟨n', ho, p1, p2, p3, p4, p5, p6, p7, p8⟩ := hP
  obtain ⟨s1, s2, s3, s4, s5, s6, s7⟩ := hR
  obtain ⟨q1, q2, q3, q4, q5, q6, q7, q8⟩ := p2
  have hfv : fN (σ 244 r) = v := by rw [hv, fN_nI (by omega)]
  have eρ : ∀ c, 232 ≤ c → ρ c = σ c := fun c hc => f5 c (by omega) (by omega) (by omega)
  have eτ : ∀ c, 232 ≤ c → τ c = σ c := fun c hc => (p8 c (by omega) (by omega) (by omega) (by omega) (by omega) (by omega)).trans (eρ c hc)
  have hmaρ : ∀ a k, hma ρ r a k = hma σ r a k := hma_eq (eρ _ (by decide)) r
  have hmaτ : ∀ a k, hma τ r a k = hma σ r a k := hma_eq (eτ _ (by decide)) r
  have ssρ : ∀ k, ssV ρ n r a1 a2 a3 k = ssV σ n r a1 a2 a3 k := ssV_eq (eρ _ (by decide)) n r a1 a2 a3
  have ssτ : ∀ k, ssV τ n r a1 a2 a3 k = ssV σ n r a1 a2 a3 k := ssV_eq (eτ _ (by decide)) n r a1 a2 a3
  have hmin : min 6 v = v := by omega
  rw [hmin] at q1 q4
  rw [hmaρ] at q1
  obtain rfl : n' = n2 := by omega
  have lo : ∀ c, c < 232 → ω c = τ c := fun c hc => by
    rw [hω]
    unfold seS
    rw [up_ne (by omega), up_ne (by omega), up_ne (by omega), up_ne (by omega)]
    exact hL c hc
  have el : ∀ e, 13 ≤ e → e < 232 → e ≠ 13 → e ≠ 17 → e ≠ 15 → e ≠ 16 → e ≠ 23 + 35 * r → e ≠ 195 → e ≠ 196 → e ≠ 201 → ω e = σ e := fun e x0 x1 x2 x3 x4 x5 x6 x7 x8 x9 => (lo e x1).trans ((p8 e x0 x2 x3 x4 x5 x6).trans (f5 e x7 x8 x9))
  have er : ∀ e, 232 < e → e ∉ rowC → e ≠ 256 → e ≠ 255 → e ≠ 250 → ω e = σ e := fun e x0 x1 x2 x3 x4 => by
    rw [hω]
    unfold seS
    rw [up_ne (by omega), up_ne (by omega), up_ne x4, up_ne x3, s1 e x0 x1 x2, eτ e (by omega)]
  have hr' : ∀ l : List Nat, l.all (fun c => decide (232 < c ∧ c ∉ rowC ∧ c ≠ 256 ∧ c ≠ 255 ∧ c ≠ 250)) = true → eqC σ ω l := eqC_of (fun c q => er c q.1 q.2.1 q.2.2.1 q.2.2.2.1 q.2.2.2.2)
  have one : ∀ c, [c].all (fun c => decide (232 < c ∧ c ∉ rowC ∧ c ≠ 256 ∧ c ≠ 255 ∧ c ≠ 250)) = true → ω c = σ c := fun c hc => hr' [c] hc c (List.mem_singleton.mpr rfl)
  have e_sr : ω 255 = upd (σ 255) S (nI r) := by
    rw [hω]; show upd (τ' 255) S (nI r) = _; rw [s1 _ (by decide) (by decide) (by decide), eτ _ (by decide)]
  have e_cl : ω 250 = upd (σ 250) r 1 := by
    rw [hω]; show upd (τ' 250) r 1 = _; rw [s1 _ (by decide) (by decide) (by decide), eτ _ (by decide)]
  have e_af : ω 256 = τ' 256 := by rw [hω]; rfl
  have hk : ∀ t, t < n → ω 233 t = σ 233 t ∧ ω 234 t = σ 234 t ∧ ω 235 t = σ 235 t := fun t ht => by
    have := s4 t ht
    rw [eτ 233 (by decide), eτ 234 (by decide), eτ 235 (by decide)] at this
    rw [hω]
    exact this
  have hk2 : ∀ u, u < n → ω 233 u = σ 233 u ∧ ω 234 u = σ 234 u ∧ ω 235 u = σ 235 u ∧ ω 240 u = σ 240 u ∧ ω 241 u = σ 241 u := fun u hu => ⟨(hk u hu).1, (hk u hu).2.1, (hk u hu).2.2, by rw [one 240 (by decide)], by rw [one 241 (by decide)]⟩
  have hnn : n ≤ n' := by omega
  have hsg := fun t (ht : t < n) => mTb_sg i.1 hI.1 hnn hk ht
  have eru : ω 232 52 = 0 := by
    rw [hω]
    show τ' 232 52 = 0
    rw [s2 _ (by decide), eτ _ (by decide)]
    exact hrn
  have hbd : ∀ r' dn k, r' < R → dn ≤ fN (σ 247 r') → (bdv ω r' dn k ↔ bdv σ r' dn k) := fun r' dn k hr' hdn => by
    unfold bdv
    rw [one 244 (by decide), one 246 (by decide), one 249 (by decide), one 245 (by decide), one 248 (by decide)]
    refine and_congr_right (fun _ => or_congr_right (exists_congr (fun e => and_congr_right (fun he => and_congr_right (fun _ => ?_)))))
    obtain ⟨t, t1, t2, -⟩ := i.2.1.2.2.2.2.2 r' e hr' (by omega)
    have hn1 := i.1.1
    rw [t2, fN_nI (by omega), (fT_all i.1 hk t1).2.2]
  have hbl : ∀ r' e, r' < R → e < fN (σ 247 r') → bls ω r' e = bls σ r' e := fun r' e hr' he => by
    have hn1 := i.1.1
    obtain ⟨t, t1, t2, -⟩ := i.2.1.2.2.2.2.2 r' e hr' he
    unfold bls
    rw [one 248 (by decide), t2, fN_nI (by omega), (fT_all i.1 hk t1).2.2, one 241 (by decide)]
    refine fl_congr (fun w hw => ?_)
    unfold nbv
    rw [hbd r' _ _ hr' (by omega), hbd r' _ _ hr' (by omega)]
  have hop : ∀ j, j < 7 * S → ω 17 j = σ 17 j := fun j hj => by
    rw [lo _ (by decide), p6 j hj, f5 _ (by decide) (by decide) (by decide)]
  have haf : ∀ j, j < 6 * S → ω 256 j = σ 256 j := fun j hj => by
    rw [e_af, s3 j hj, eτ _ (by decide)]
  have hafS : ∀ k, k < v → ω 256 (6 * S + k) = ssV σ n r a1 a2 a3 k := fun k hk => by
    rw [e_af, s7 k hk, ssτ]
  have hnew : ∀ t, n ≤ t → t < n' → ∃ so, (so = 1 ∨ so = 2) ∧ ω 2 t = nI so ∧ ω 233 t = nI so := fun t t1 t2 => by
    obtain ⟨k0, k1, k2, k3⟩ := hma_at σ r v (t - n) (by omega)
    obtain ⟨tv, so, asv, w1, w2, w3, w4, w5, w6, w7, w8, w9, w10, w11⟩ := i.2.1.2.2.2.1 r k0 hr (by omega)
    have has : asv = 1 := nI_inj (w9.symm.trans k2)
    have hso := w11 has
    have hn1 := i.1.1
    have hst : σ 240 (fN (σ 245 (6 * r + k0))) = nI so := by rw [w2, fN_nI (by omega)]; exact w7
    have c1 := (seN_eq (eρ _ (by decide)) (eρ _ (by decide)) (eρ _ (by decide)) q4) k0 k1 k2
    have c2 := (seN_eq (eτ _ (by decide)) (eτ _ (by decide)) (eτ _ (by decide)) s6) k0 k1 k2
    rw [hst, k3, show n + (t - n) = t by omega] at c1 c2
    refine ⟨so, hso, ?_, ?_⟩
    · rw [lo _ (by decide)]
      exact c1
    · rw [hω]
      exact c2
  refine ⟨n', b', R, S + 1, C, kl, hI, cJ_low lo p1, ⟨fun t ht => ?_, ?_⟩, fun r' hr2 => ?_, fun s hs => ?_, aC_c i.2.2.2.2.1 (fun c c1 c2 => el c (by omega) (by omega) (by omega) (by omega) (by omega) (by omega) (by omega) (by omega) (by omega) (by omega)) (hr' _ (by decide)) ac, aK_eq ?_ (el _ (by decide) (by decide) (by decide) (by decide) (by decide) (by decide) (by omega) (by decide) (by decide) (by decide)) k, aU_none ?_ eru, aF_none ?_ ?_ ?_ ?_ (by rw [hω]; rfl) (by rw [hω]; rfl) (by rw [hω]; rfl) (by rw [hω]; rfl), aM_eq2 (fun c c1 c2 c3 c4 c5 => el c (by omega) (by omega) (by omega) (by omega) (by omega) (by omega) (by omega) c3 c4 c5) mm⟩
  · by_cases e : t < n
    · obtain ⟨g1, g2, g3, g4, g5, g6, g7, g8, g9⟩ := q2 t e
      have := tt.1 t e
      unfold aT1 at this ⊢
      rw [lo 2 (by decide), lo 3 (by decide), lo 4 (by decide), lo 5 (by decide), lo 8 (by decide), lo 9 (by decide), lo 10 (by decide), lo 11 (by decide), lo 12 (by decide), g1, g2, g3, g4, g5, g6, g7, g8, g9, f5 2 (by decide) (by decide) (by decide), f5 3 (by decide) (by decide) (by decide), f5 4 (by decide) (by decide) (by decide), f5 5 (by decide) (by decide) (by decide), f5 8 (by decide) (by decide) (by decide), f5 9 (by decide) (by decide) (by decide), f5 10 (by decide) (by decide) (by decide), f5 11 (by decide) (by decide) (by decide), f5 12 (by decide) (by decide) (by decide), (hk t e).1, (hk t e).2.1, (hk t e).2.2, (hsg t e).1, (hsg t e).2, one 238 (by decide), one 239 (by decide), one 240 (by decide), one 241 (by decide)]
      exact this
    · obtain ⟨so, c1, c2, c3⟩ := hnew t (by omega) ht
      obtain ⟨d1, d2, d3, d4⟩ := q3 t (by omega) ht
      have esz := hI.1.2.2.2.2.2.1.2.1 t (Or.inl ht)
      have egr := hI.1.2.2.2.2.2.2.1 t (Or.inl ht)
      have c4 : ω 234 t = -1 ∧ ω 235 t = -1 := by
        rw [hω]
        exact s5 t (by omega) ht
      have g2 : tsz (ω 233) (ω 234) (ω 235) t = 1 := tA_0 c3 (by omega)
      have g3 : tgd (ω 233) (ω 234) (ω 235) t = true := by
        have : tgd (ω 233) (ω 234) (ω 235) t = decide (ω 233 t ≠ nI 3) := tA_0 c3 (by omega)
        rw [this, c3]
        exact decide_eq_true (nI_ne (by omega))
      unfold aT1
      rw [c2, c3, lo 3 (by decide), lo 4 (by decide), lo 5 (by decide), lo 8 (by decide), d1, d2, d3, d4, c4.1, c4.2, esz, egr, g2, g3]
      refine ⟨rfl, rfl, rfl, rfl, rfl, fun z => ?_, fun z => ?_⟩
      · have := nI_inj z
        omega
      · have := nI_inj z
        omega
  · unfold cCn cpt at q5 ⊢
    rw [lo 2 (by decide), lo 3 (by decide), lo 4 (by decide), lo 7 (by decide), lo 6 (by decide)]
    exact q5
  · obtain ⟨-, ev, ev1, ev2⟩ := i.2.1.2.2.1 r' hr2
    have he6 : fN (σ 247 r') ≤ 6 := by rw [ev2, fN_nI (by omega)]; exact ev1
    obtain ⟨g1, g2, g3, g4, g5⟩ := ar r' hr2
    have c24 : ω (24 + 35 * r') = σ (24 + 35 * r') := el _ (by omega) (by omega) (by omega) (by omega) (by omega) (by omega) (by omega) (by omega) (by omega) (by omega)
    have c25 : ω (25 + 35 * r') = σ (25 + 35 * r') := el _ (by omega) (by omega) (by omega) (by omega) (by omega) (by omega) (by omega) (by omega) (by omega) (by omega)
    have c26 : ω (26 + 35 * r') = σ (26 + 35 * r') := el _ (by omega) (by omega) (by omega) (by omega) (by omega) (by omega) (by omega) (by omega) (by omega) (by omega)
    have c23 : ω (23 + 35 * r') 3 = σ (23 + 35 * r') 3 ∧ ω (23 + 35 * r') 5 = σ (23 + 35 * r') 5 ∧ (ω (23 + 35 * r') 6 ≠ 0 ↔ ω 250 r' ≠ 0) := by
      by_cases e : r' = r
      · subst e
        rw [lo _ (by omega), p3, e_cl, f5 _ (by omega) (by omega) (by omega)]
        exact ⟨rfl, rfl, fun _ => by rw [pk_us]; decide, fun _ => by show (1 : Int32) ≠ 0; decide⟩
      · rw [el _ (by omega) (by omega) (by omega) (by omega) (by omega) (by omega) (by omega) (by omega) (by omega) (by omega), e_cl, pk_un e]
        exact ⟨rfl, rfl, g3⟩
    unfold aR1
    rw [c23.1, c23.2.1, c24, c25, c26, one 244 (by decide), one 247 (by decide), one 246 (by decide), one 240 (by decide), one 245 (by decide)]
    refine ⟨g1, g2, c23.2.2, fun k hk => ?_, fun e he => ?_⟩
    · rw [hbd r' _ _ hr2 (Nat.le_refl _)]
      exact g4 k hk
    · exact aE_g i.1 i.2.1 hr2 he hk2 (by rw [one 248 (by decide)]) (by rw [one 249 (by decide)]) (hbl r' e hr2 he) (fun i hi => el _ (by omega) (by omega) (by omega) (by omega) (by omega) (by omega) (by omega) (by omega) (by omega) (by omega)) (g5 e he)
  · by_cases e : s = S
    · subst e
      unfold aS1 hoF
      have eo : ω 17 = τ 17 := lo _ (by decide)
      rw [lo 15 (by decide), p4, e_sr, pk_us, pk_us, fN_nI (by omega), one 244 (by decide), hfv, eo, lo 16 (by decide), p5, pk_us, one 246 (by decide), one 238 (by decide)]
      refine ⟨rfl, q6, fun k hk => ?_, ?_⟩
      · rw [q7 k hk]
        by_cases e2 : k < v
        · rw [if_pos e2, if_pos e2, hafS k e2, ssρ]
        · rw [if_neg e2, if_neg e2]
      · rw [q8]
        constructor
        · intro z k hk ha
          rw [hafS k hk, ← ssρ, ← eρ 238 (by decide)]
          exact z k (by omega) hk (by rw [eρ 246 (by decide)]; exact ha)
        · intro z k _ hk ha
          rw [ssρ, eρ 238 (by decide), ← hafS k hk]
          exact z k hk (by rw [← eρ 246 (by decide)]; exact ha)
    · have hs' : s < S := by omega
      obtain ⟨a1, a2, a3, a4⟩ := as s hs'
      obtain ⟨rs, r1, r2, -, r4⟩ := i.2.2.1.2.2 s hs'
      obtain ⟨⟨vs, v1, v2⟩, -⟩ := i.2.1.2.2.1 rs r1
      have hrs : fN (σ 255 s) = rs := by rw [r2, fN_nI (by omega)]
      have hvs : fN (σ 244 rs) ≤ 6 := by rw [v2, fN_nI (by omega)]; exact v1
      unfold hoF at a4
      unfold aS1 hoF
      rw [hrs] at a3 a4
      rw [lo 15 (by decide), p4, e_sr, pk_un e, pk_un e, hrs, one 244 (by decide), lo 16 (by decide), p5, pk_un e, one 246 (by decide), one 238 (by decide), f5 15 (by decide) (by decide) (by decide), f5 16 (by decide) (by decide) (by decide), hop _ (by omega)]
      refine ⟨a1, a2, fun k hk => ?_, ?_⟩
      · rw [hop _ (by omega), haf _ (by omega)]
        exact a3 k hk
      · rw [a4]
        refine forall_congr' (fun k => ?_)
        refine imp_congr_right (fun hk => ?_)
        rw [haf _ (by omega)]
  · rw [lo 13 (by decide), p7 _ (by decide), f5 13 (by decide) (by decide) (by decide)]
  · rw [el 181 (by decide) (by decide) (by decide) (by decide) (by decide) (by decide) (by omega) (by decide) (by decide) (by decide)]
    exact Classical.byContradiction (fun z => absurd hrn (u.1.mp z))
  · rw [lo 196 (by decide), p8 196 (by decide) (by decide) (by decide) (by decide) (by decide) (by omega)]
    exact f1
  · rw [lo 195 (by decide), p8 195 (by decide) (by decide) (by decide) (by decide) (by decide) (by omega)]
    exact f3
  · rw [lo 195 (by decide), p8 195 (by decide) (by decide) (by decide) (by decide) (by decide) (by omega)]
    exact f4
  · rw [lo 195 (by decide), p8 195 (by decide) (by decide) (by decide) (by decide) (by decide) (by omega)]
    exact f2
theorem bo_session (L : Nat) (xs : Nat → Int32) (d d' m : Nat) (σ : kS) (x a b c : Int32) (h : bJ m σ) : kXM kT L xs (d + 6) 118 [.ref 0, .int x, .int a, .int b, .int c] σ (fun r τ => ∃ z, r = some (.int z) ∧ kXM kT L xs (d' + 4) 170 [.ref 232, .int x, .int a, .int b, .int c] τ (fun r' ω => r' = some (.int z) ∧ bJ m ω)) := by
  have hb := h
  obtain ⟨n, bb, R, S, C, kl, h⟩ := h
  have hI := h.1
  have hU := h.2.2.2.2.2.2.2.1
  have hR4 := hI.2.1.1
  -- which role it is, and how many VARIABLES it has
  have uni : ∀ r r' v v', r < R → r' < R → x = nI r → x = nI r' → σ 244 r = nI v → σ 244 r' = nI v' → v ≤ 6 → v' ≤ 6 → r' = r ∧ v' = v := fun r r' v v' h1 h2 e1 e2 f1 f2 h3 h4 => by
    obtain rfl : r' = r := nI_inj (e2.symm.trans e1)
    exact ⟨rfl, nI_inj (f2.symm.trans f1)⟩
  have hon : σ 181 8 = 0 → σ 232 52 = 0 := fun q => Classical.byContradiction (fun z => hU.1.mpr z q)
  refine kg_session L xs d σ n R S C x a b c _ h.2.1 hI.2.1 h.2.2.2.1 h.2.2.1 (fun q => ⟨_, rfl, ?_⟩) (fun r v c1 c2 c3 c0 c4 => ⟨_, rfl, ?_⟩) (fun r v c1 c2 c3 c0 c4 c5 => ⟨_, rfl, ?_⟩) (fun r v c1 c2 c3 c0 c4 c5 c6 => ⟨_, rfl, ?_⟩) (fun r v c1 c2 c3 c0 c4 c5 c6 c7 c8 => ⟨_, rfl, ?_⟩) (fun r v ρ ω c1 c2 c3 c4 c5 c6 c7 c8 c9 c10 c11 c12 => ⟨_, rfl, ?_⟩)
  · exact mg_session L xs d' σ n bb R S C kl x a b c _ hI (fun _ => ⟨rfl, hb⟩) (fun r v e1 e2 => absurd ⟨r, e1, e2⟩ q) (fun r v e1 e2 => absurd ⟨r, e1, e2⟩ q) (fun r v e1 e2 => absurd ⟨r, e1, e2⟩ q) (fun r v e1 e2 => absurd ⟨r, e1, e2⟩ q) (fun r v τ n' b' e1 e2 => absurd ⟨r, e1, e2⟩ q)
  · have no : ∀ r' v', r' < R → x = nI r' → σ 244 r' = nI v' → v' ≤ 6 → ¬ parT n (hma σ r' 0 v') a b c := fun r' v' e1 e2 e3 e0 => by
      obtain ⟨rfl, rfl⟩ := uni r r' v v' c1 e1 c2 e2 c3 e3 c0 e0
      exact c4
    exact mg_session L xs d' σ n bb R S C kl x a b c _ hI (fun z => absurd ⟨r, c1, c2⟩ z) (fun _ _ _ _ _ _ _ => ⟨rfl, hb⟩) (fun r' v' e1 e2 e3 e0 e4 => absurd e4 (no r' v' e1 e2 e3 e0)) (fun r' v' e1 e2 e3 e0 e4 => absurd e4 (no r' v' e1 e2 e3 e0)) (fun r' v' e1 e2 e3 e0 e4 => absurd e4 (no r' v' e1 e2 e3 e0)) (fun r' v' τ n' b' e1 e2 e3 e0 e4 => absurd e4 (no r' v' e1 e2 e3 e0))
  · have yes : ∀ r' v', r' < R → x = nI r' → σ 244 r' = nI v' → v' ≤ 6 → parT n (hma σ r' 0 v') a b c := fun r' v' e1 e2 e3 e0 => by
      obtain ⟨rfl, rfl⟩ := uni r r' v v' c1 e1 c2 e2 c3 e3 c0 e0
      exact c4
    have hr := hU.1.mp c5
    exact mg_session L xs d' σ n bb R S C kl x a b c _ hI (fun z => absurd ⟨r, c1, c2⟩ z) (fun r' v' e1 e2 e3 e0 e4 => absurd (yes r' v' e1 e2 e3 e0) e4) (fun _ _ _ _ _ _ _ _ => ⟨rfl, hb⟩) (fun r' v' e1 e2 e3 e0 e4 e5 => absurd e5 hr) (fun r' v' e1 e2 e3 e0 e4 e5 => absurd e5 hr) (fun r' v' τ n' b' e1 e2 e3 e0 e4 e5 => absurd e5 hr)
  · have yes : ∀ r' v', r' < R → x = nI r' → σ 244 r' = nI v' → v' ≤ 6 → parT n (hma σ r' 0 v') a b c ∧ (S = 4 ∨ 200 < n + hma σ r' 1 v') := fun r' v' e1 e2 e3 e0 => by
      obtain ⟨rfl, rfl⟩ := uni r r' v v' c1 e1 c2 e2 c3 e3 c0 e0
      exact ⟨c4, c6⟩
    have hr := hon c5
    exact mg_session L xs d' σ n bb R S C kl x a b c _ hI (fun z => absurd ⟨r, c1, c2⟩ z) (fun r' v' e1 e2 e3 e0 e4 => absurd (yes r' v' e1 e2 e3 e0).1 e4) (fun r' v' e1 e2 e3 e0 e4 e5 => absurd hr e5) (fun _ _ _ _ _ _ _ _ _ => ⟨rfl, hb⟩) (fun r' v' e1 e2 e3 e0 e4 e5 e6 e7 => by have := (yes r' v' e1 e2 e3 e0).2; omega) (fun r' v' τ n' b' e1 e2 e3 e0 e4 e5 e6 e7 => by have := (yes r' v' e1 e2 e3 e0).2; omega)
  · have yes : ∀ r' v', r' < R → x = nI r' → σ 244 r' = nI v' → v' ≤ 6 → parT n (hma σ r' 0 v') a b c ∧ n + hma σ r' 1 v' ≤ 200 ∧ ¬ (hma σ r' 0 v' ≤ 3 ∧ parG σ n (hma σ r' 0 v') a b c) := fun r' v' e1 e2 e3 e0 => by
      obtain ⟨rfl, rfl⟩ := uni r r' v v' c1 e1 c2 e2 c3 e3 c0 e0
      exact ⟨c4, c7, c8⟩
    have hr := hon c5
    exact mg_session L xs d' σ n bb R S C kl x a b c _ hI (fun z => absurd ⟨r, c1, c2⟩ z) (fun r' v' e1 e2 e3 e0 e4 => absurd (yes r' v' e1 e2 e3 e0).1 e4) (fun r' v' e1 e2 e3 e0 e4 e5 => absurd hr e5) (fun r' v' e1 e2 e3 e0 e4 e5 e6 => by have := (yes r' v' e1 e2 e3 e0).2.1; omega) (fun _ _ _ _ _ _ _ _ _ _ _ => ⟨rfl, hb⟩) (fun r' v' τ n' b' e1 e2 e3 e0 e4 e5 e6 e7 e8 e9 => absurd ⟨e8, e9⟩ (yes r' v' e1 e2 e3 e0).2.2)
  · have hr := hon c6
    have hi : ∀ e, 232 ≤ e → ω e = σ e := fun e he => by
      obtain ⟨n', ho, p1, p2, p3, p4, p5, p6, p7, p8⟩ := c12
      rw [p8 e (by omega) (by omega) (by omega) (by omega) (by omega) (by omega), c11.2.2.2.2 e (by omega) (by omega) (by omega)]
    have hIω := aJ_hi h hi
    have eV : ω 244 = σ 244 := hi _ (by decide)
    have eH : ∀ r a k, hma ω r a k = hma σ r a k := hma_eq (hi _ (by decide))
    have ePG : ∀ p, parG ω n p a b c ↔ parG σ n p a b c := fun p => by
      unfold parG
      rw [hi 233 (by decide)]
    have e232 : ω 232 = σ 232 := hi _ (by decide)
    have yes : ∀ r' v', r' < R → x = nI r' → ω 244 r' = nI v' → v' ≤ 6 → parT n (hma ω r' 0 v') a b c ∧ n + hma ω r' 1 v' ≤ 200 ∧ (hma ω r' 0 v' ≤ 3 ∧ parG ω n (hma ω r' 0 v') a b c) ∧ r' = r ∧ v' = v := fun r' v' e1 e2 e3 e0 => by
      rw [eV] at e3
      obtain ⟨rfl, rfl⟩ := uni r r' v v' c1 e1 c2 e2 c3 e3 c4 e0
      rw [eH, eH, ePG]
      exact ⟨c5, c8, ⟨c9, c10⟩, rfl, rfl⟩
    refine mg_session L xs d' ω n bb R S C kl x a b c _ hIω (fun z => absurd ⟨r, c1, c2⟩ z) (fun r' v' e1 e2 e3 e0 e4 => absurd (yes r' v' e1 e2 e3 e0).1 e4) (fun r' v' e1 e2 e3 e0 e4 e5 => absurd hr (by rw [← e232]; exact e5)) (fun r' v' e1 e2 e3 e0 e4 e5 e6 => by have := (yes r' v' e1 e2 e3 e0).2.1; omega) (fun r' v' e1 e2 e3 e0 e4 e5 e6 e7 e8 => absurd (yes r' v' e1 e2 e3 e0).2.2.1 e8) (fun r' v' τ n' b' e1 e2 e3 e0 e4 e5 e6 e7 e8 e9 e10 e11 e12 e13 => ⟨rfl, ?_⟩)
    obtain ⟨-, -, -, rfl, rfl⟩ := yes r' v' e1 e2 e3 e0
    rw [eH] at e7 e10
    exact bJ_se h c1 c4 c3 c7 hr c9 c10 c11 c12 e10 (by omega) e11 e12 rfl e13
