/-! alike: event -/
/-- one EVENT more on both sides -/
theorem bJ_ev {σ τ ω : kS} {n b R S C m r e t v : Nat} {kl : List Nat} {y : Int32} {ST VS W ST2 A : Nat → Int32} {m2 : Int32} (h : aJ σ n b R S C kl m) (hr : r < R) (hcl : σ 250 r = 0) (hev : σ 247 r = nI e) (he : e < 6) (ht : t < n) (hv : σ 244 r = nI v) (hv6 : v ≤ 6) (hall : ∀ u ∈ tvs (σ 233) (σ 234) (σ 235) t, okU σ r e y u) (hJ : cJ τ n R S C) (hP : neP (lvU σ ST VS) τ r e t v y) (hω : ω = evN (evS τ W ST2 m2 A) r e (nI t) y) (hI : mI ω n b R S C kl) : bJ m ω := by
  obtain ⟨i, j, tt, ar, as, ac, k, u, f, mm⟩ := h
  have hR4 := i.2.1.1
  have hn := i.1.1
  have hfe : fN (σ 247 r) = e := by rw [hev, fN_nI (by omega)]
  have hfv : fN (σ 244 r) = v := by rw [hv, fN_nI (by omega)]
  obtain ⟨p1, p2, p3, p4, p5, p6⟩ := hP
  have hlv : ∀ c, c ≠ 20 → c ≠ 21 → lvU σ ST VS c = σ c := fun c x1 x2 => by
    unfold lvU
    rw [up_ne x2, up_ne x1]
  have lo : ∀ c, c < 232 → ω c = τ c := fun c hc => by
    rw [hω]
    unfold evN evS fvS
    rw [up_ne (by omega), up_ne (by omega), up_ne (by omega), up_ne (by omega), up_ne (by omega), up_ne (by omega), up_ne (by omega)]
  have el : ∀ c, c < 232 → c ≠ 20 → c ≠ 21 → c ≠ 22 → c ≠ 26 + 35 * r → c ≠ 23 + 35 * r → (c < 28 + 35 * r + 5 * e ∨ 28 + 35 * r + 5 * e + 5 ≤ c) → ω c = σ c := fun c x0 x1 x2 x3 x4 x5 x6 => (lo c x0).trans ((p1 c x1 x2 x3 x4 x5 x6).trans (hlv c x1 x2))
  have hi : ∀ c, 232 ≤ c → τ c = σ c := fun c hc => (p1 c (by omega) (by omega) (by omega) (by omega) (by omega) (by omega)).trans (hlv c (by omega) (by omega))
  have er : ∀ c, 232 < c → c ≠ 252 → c ≠ 251 → c ≠ 253 → c ≠ 248 → c ≠ 249 → c ≠ 247 → ω c = σ c := fun c x0 x1 x2 x3 x4 x5 x6 => by
    rw [hω]
    unfold evN evS fvS
    rw [up_ne x6, up_ne x5, up_ne x4, up_ne x3, up_ne (by omega), up_ne x2, up_ne x1, hi c (by omega)]
  have hr' : ∀ l : List Nat, l.all (fun c => decide (232 < c ∧ c ≠ 252 ∧ c ≠ 251 ∧ c ≠ 253 ∧ c ≠ 248 ∧ c ≠ 249 ∧ c ≠ 247)) = true → eqC σ ω l := eqC_of (fun c q => er c q.1 q.2.1 q.2.2.1 q.2.2.2.1 q.2.2.2.2.1 q.2.2.2.2.2.1 q.2.2.2.2.2.2)
  have one : ∀ c, [c].all (fun c => decide (232 < c ∧ c ≠ 252 ∧ c ≠ 251 ∧ c ≠ 253 ∧ c ≠ 248 ∧ c ≠ 249 ∧ c ≠ 247)) = true → ω c = σ c := fun c hc => hr' [c] hc c (List.mem_singleton.mpr rfl)
  have eo : ∀ q, q ≠ 22 → ω 232 q = σ 232 q := fun q hq => by
    rw [hω]
    show upd (τ 232) 22 m2 q = _
    rw [pk_un hq, hi 232 (by decide)]
  have e_et : ω 248 = upd (σ 248) (6 * r + e) (nI t) := by
    rw [hω]; show upd (τ 248) (6 * r + e) (nI t) = _; rw [hi _ (by decide)]
  have e_se : ω 249 = upd (σ 249) (6 * r + e) y := by
    rw [hω]; show upd (τ 249) (6 * r + e) y = _; rw [hi _ (by decide)]
  have e_ev : ω 247 = upd (σ 247) r (nI (e + 1)) := by
    rw [hω]; show upd (τ 247) r (nI (e + 1)) = _; rw [hi _ (by decide)]
  have hk2 : ∀ u, u < n → ω 233 u = σ 233 u ∧ ω 234 u = σ 234 u ∧ ω 235 u = σ 235 u ∧ ω 240 u = σ 240 u ∧ ω 241 u = σ 241 u := fun u _ => by
    rw [one 233 (by decide), one 234 (by decide), one 235 (by decide), one 240 (by decide), one 241 (by decide)]
    exact ⟨rfl, rfl, rfl, rfl, rfl⟩
  have hidx : ∀ r' k, r' < R → r' ≠ r → k < 6 → 6 * r' + k ≠ 6 * r + e := fun r' k h1 h2 h3 => by omega
  have hO : ∀ r', r' < R → r' ≠ r → roO σ ω r' := fun r' h1 h2 => by
    unfold roO
    rw [e_ev, e_et, e_se, one 244 (by decide), one 250 (by decide), one 245 (by decide), one 246 (by decide), pk_un h2]
    exact ⟨rfl, rfl, rfl, fun k hk => ⟨rfl, rfl, pk_un (hidx r' k h1 h2 hk), pk_un (hidx r' k h1 h2 hk)⟩⟩
  have hF : ∀ r', r' < R → r' ≠ r → fR σ ω r' n := fun r' h1 h2 => ⟨hO r' h1 h2, hk2, fun c c1 c2 => el c (by omega) (by omega) (by omega) (by omega) (by omega) (by omega) (by omega)⟩
  have hsr : ∀ s, s < S → fN (σ 255 s) < R ∧ fN (σ 255 s) ≠ r := fun s hs => by
    obtain ⟨r', r1, r2, r3, -⟩ := i.2.2.1.2.2 s hs
    rw [r2, fN_nI (by omega)]
    exact ⟨r1, fun e => r3 (by rw [e]; exact hcl)⟩
  -- what is bound in the role r
  have hbd : ∀ dn k, dn ≤ e → (bdv ω r dn k ↔ bdv σ r dn k) := fun dn k hdn => by
    unfold bdv
    rw [one 244 (by decide), one 246 (by decide), one 245 (by decide), one 233 (by decide), one 234 (by decide), one 235 (by decide), e_et, e_se]
    refine and_congr_right (fun _ => or_congr_right (exists_congr (fun e' => and_congr_right (fun he' => ?_))))
    rw [pk_un (show 6 * r + e' ≠ 6 * r + e by omega), pk_un (show 6 * r + e' ≠ 6 * r + e by omega)]
  have hbd1 : ∀ k, k < v → σ 246 (6 * r + k) = nI 2 → (bdv ω r (e + 1) k ↔ bdv σ r e k ∨ (y = 0 ∧ fN (σ 245 (6 * r + k)) ∈ tvs (σ 233) (σ 234) (σ 235) t)) := fun k hk ha => by
    unfold bdv
    rw [one 244 (by decide), one 246 (by decide), one 245 (by decide), one 233 (by decide), one 234 (by decide), one 235 (by decide), e_et, e_se]
    constructor
    · rintro ⟨h1, h2 | ⟨e', h2, h3, h4⟩⟩
      · exact absurd ha h2
      · by_cases q : e' = e
        · subst q
          rw [pk_us] at h3 h4
          rw [fN_nI (by omega)] at h4
          exact Or.inr ⟨h3, h4⟩
        · rw [pk_un (show 6 * r + e' ≠ 6 * r + e by omega)] at h3 h4
          exact Or.inl ⟨h1, Or.inr ⟨e', by omega, h3, h4⟩⟩
    · rintro (⟨h1, h2⟩ | ⟨h2, h3⟩)
      · rcases h2 with h2 | ⟨e', h2, h3, h4⟩
        · exact absurd ha h2
        · refine ⟨h1, Or.inr ⟨e', by omega, ?_, ?_⟩⟩
          · rw [pk_un (show 6 * r + e' ≠ 6 * r + e by omega)]
            exact h3
          · rw [pk_un (show 6 * r + e' ≠ 6 * r + e by omega)]
            exact h4
      · refine ⟨by rw [hfv]; exact hk, Or.inr ⟨e, by omega, ?_, ?_⟩⟩
        · rw [pk_us]
          exact h2
        · rw [pk_us, fN_nI (by omega)]
          exact h3
  -- the VARIABLES of the EVENT
  have hvu : ∀ w ∈ tvs (σ 233) (σ 234) (σ 235) t, ∃ k, k < v ∧ σ 241 w = nI k ∧ σ 12 w = nI k ∧ σ 245 (6 * r + k) = nI w ∧ w < n ∧ σ (25 + 35 * r) k = σ 240 w := fun w hw => by
    have hwn := tvs_mem (mTb_num i.1) t ht w hw
    obtain ⟨r2, k2, a1, a2, a3⟩ := i.2.1.2.2.2.2.1 w hwn.1 hwn.2.1
    obtain ⟨t', so', as', b1, b2, b3, b4, b5, -⟩ := i.2.1.2.2.2.1 r2 k2 a1 a2
    obtain rfl : w = t' := nI_inj (a3.symm.trans b2) (by omega) (by omega)
    obtain rfl : r2 = r := nI_inj (b4.symm.trans (hall w hw).1) (by omega) (by omega)
    rw [hfv] at a2
    refine ⟨k2, a2, b5, ((tt.1 w hwn.1).2.2.2.2.2.2 hwn.2.1).2.2.trans b5, a3, hwn.1, ?_⟩
    rw [((ar r2 hr).2.2.2.1 k2 (by omega)).2.1, a3, fN_nI (by omega)]
  obtain ⟨g1, g2, g3, g4, g5⟩ := ar r hr
  have hLp : lvU σ ST VS 12 = σ 12 := hlv _ (by decide) (by decide)
  have hLk : tvs (lvU σ ST VS 233) (lvU σ ST VS 234) (lvU σ ST VS 235) t = tvs (σ 233) (σ 234) (σ 235) t := by rw [hlv 233 (by decide) (by decide), hlv 234 (by decide) (by decide), hlv 235 (by decide) (by decide)]
  have hLb : bdL (lvU σ ST VS) r v (tvs (σ 233) (σ 234) (σ 235) t) = bdL σ r v (tvs (σ 233) (σ 234) (σ 235) t) := bdL_eq (hlv _ (by omega) (by omega)) (hlv _ (by omega) (by omega)) hLp
  -- a VARIABLE waits if it is RECEIVED and not bound yet
  have hwf : ∀ k, k < v → (wfr σ r v (nI k) ↔ ¬ bdv σ r e k) := fun k hk => by
    obtain ⟨c1, c2, c3⟩ := g4 k (by omega)
    rw [hfe] at c3
    constructor
    · rintro ⟨k', k1, k2, k3, k4⟩ hb
      obtain rfl : k = k' := nI_inj k2
      rw [c1] at k3
      exact (c3 k3).mpr hb k4
    · intro hb
      have ha : σ 246 (6 * r + k) = nI 2 := Classical.byContradiction (fun z => hb ⟨by omega, Or.inl z⟩)
      exact ⟨k, hk, rfl, c1.trans ha, Classical.byContradiction (fun z => hb ((c3 ha).mp z))⟩
  have hbls : y = 0 → bls ω r e = bdL σ r v (tvs (σ 233) (σ 234) (σ 235) t) := fun hy => by
    unfold bls bdL
    rw [e_et, pk_us, fN_nI (by omega), one 233 (by decide), one 234 (by decide), one 235 (by decide), one 241 (by decide)]
    refine fl_congr (fun w hw => ?_)
    have hw2 : w ∈ tvs (σ 233) (σ 234) (σ 235) t := by
      rcases (ddl_mem _ _).mp hw with q | q
      · cases q
      · exact q
    obtain ⟨k', k1, k2, k3, k4, k5, -⟩ := hvu w hw2
    rw [k2, k3, fN_nI (by omega), hwf k' k1]
    unfold nbv
    rw [hbd e k' (Nat.le_refl _)]
    constructor
    · exact fun z => z.2
    · intro z
      have ha : σ 246 (6 * r + k') = nI 2 := Classical.byContradiction (fun q => z ⟨by omega, Or.inl q⟩)
      exact ⟨(hbd1 k' k1 ha).mpr (Or.inr ⟨hy, by rw [k4, fN_nI (by omega)]; exact hw2⟩), z⟩
  refine ⟨n, b, R, S, C, kl, hI, cJ_low lo hJ, aT_c (fun c c1 c2 => el c (by omega) (by omega) (by omega) (by omega) (by omega) (by omega) (by omega)) (hr' _ (by decide)) tt, fun r' hr2 => ?_, fun s hs => ?_, aC_c i.2.2.2.2.1 (fun c c1 c2 => el c (by omega) (by omega) (by omega) (by omega) (by omega) (by omega) (by omega)) (hr' _ (by decide)) ac, aK_eq (by rw [el 13 (by decide) (by decide) (by decide) (by decide) (by omega) (by omega) (by omega)]) (el _ (by decide) (by decide) (by decide) (by decide) (by omega) (by omega) (by omega)) k, ?_, aF_R (n := n) (R := R) (aF_fr (n' := n) i.1 i.2.1 i.2.2.1 (el _ (by decide) (by decide) (by decide) (by decide) (by omega) (by omega) (by omega)) (el _ (by decide) (by decide) (by decide) (by decide) (by omega) (by omega) (by omega)) (el _ (by decide) (by decide) (by decide) (by decide) (by omega) (by omega) (by omega)) (el _ (by decide) (by decide) (by decide) (by decide) (by omega) (by omega) (by omega)) ⟨eo _ (by decide), eo _ (by decide), eo _ (by decide), eo _ (by decide)⟩ (one _ (by decide)) (one _ (by decide)) (one _ (by decide)) (fun s _ => by rw [one 255 (by decide)]) (fun s hs => hF _ (hsr s hs).1 (hsr s hs).2) f), aM_eq (Nat.le_refl _) (fun c c1 c2 => el c (by omega) (by omega) (by omega) (by omega) (by omega) (by omega) (by omega)) mm⟩
  · by_cases q : r' = r
    · subst q
      have c23 : ω (23 + 35 * r') = upd (σ (23 + 35 * r')) 5 (nI (e + 1)) := by
        rw [lo _ (by omega), p2, hlv _ (by omega) (by omega)]
      have c24 : ω (24 + 35 * r') = σ (24 + 35 * r') := el _ (by omega) (by omega) (by omega) (by omega) (by omega) (by omega) (by omega)
      have c25 : ω (25 + 35 * r') = σ (25 + 35 * r') := el _ (by omega) (by omega) (by omega) (by omega) (by omega) (by omega) (by omega)
      have cE : ∀ q, q < 5 → ω (28 + 35 * r' + 5 * e + q) = τ (28 + 35 * r' + 5 * e + q) := fun q _ => lo _ (by omega)
      unfold aR1
      rw [c23, c24, c25, e_ev, show upd (σ 247) r' (nI (e + 1)) r' = nI (e + 1) from pk_us, fN_nI (by omega), one 244 (by decide), one 250 (by decide), one 246 (by decide), one 240 (by decide), one 245 (by decide)]
      refine ⟨g1, pk_us, g3, fun k hk => ?_, fun e' he' => ?_⟩
      · obtain ⟨d1, d2, d3⟩ := g4 k hk
        rw [hfv] at hk
        rw [hfe] at d3
        refine ⟨d1, d2, fun ha => ?_⟩
        rw [hbd1 k hk ha, ← d3 ha, lo _ (by omega)]
        by_cases hy : y = 0
        · obtain ⟨bg, -⟩ := p6 hy
          rw [hLk, hLb] at bg
          have bk := bg.2.2 k hk
          rw [hlv (26 + 35 * r') (by omega) (by omega), hLp] at bk
          constructor
          · intro z
            by_cases hz : σ (26 + 35 * r') k = 0
            · refine Or.inr ⟨hy, ?_⟩
              have : ¬ ∀ w ∈ bdL σ r' v (tvs (σ 233) (σ 234) (σ 235) t), σ 12 w ≠ nI k := fun q => z (bk.mpr ⟨hz, q⟩)
              have ⟨w, hw⟩ := Classical.not_forall.mp this
              have ⟨hw1, hw2⟩ := Classical.not_imp.mp hw
              have hw2 := Classical.not_not.mp hw2
              have hw3 := (bdL_mem.mp hw1).1
              obtain ⟨k', k1, k2, k3, k4, k5, -⟩ := hvu w hw3
              obtain rfl : k' = k := nI_inj (k3.symm.trans hw2)
              rw [k4, fN_nI (by omega)]
              exact hw3
            · exact Or.inl hz
          · rintro (z | ⟨-, z⟩) hq
            · exact z (bk.mp hq).1
            · obtain ⟨hz, hno⟩ := bk.mp hq
              obtain ⟨k', k1, k2, k3, k4, k5, -⟩ := hvu _ z
              obtain ⟨tv, sv, asv, w1, w2, w3, w4, w5, -⟩ := i.2.1.2.2.2.1 r' k hr (by omega)
              rw [w2, fN_nI (by omega)] at z k2 k3
              obtain rfl : k' = k := nI_inj (k2.symm.trans w5)
              refine hno tv (bdL_mem.mpr ⟨z, ?_⟩) k3
              rw [k3, hwf k' hk, ← d3 ha]
              exact fun q => q hz
        · rw [(p5 hy).2, hlv _ (by omega) (by omega)]
          exact ⟨Or.inl, fun z => z.elim id (fun z => absurd z.1 hy)⟩
      · by_cases q : e' = e
        · subst q
          unfold aE
          have cA : ω (28 + 35 * r' + 5 * e') = τ (28 + 35 * r' + 5 * e') := lo _ (by omega)
          rw [cA, p3, p4, e_et, e_se, show upd (σ 248) (6 * r' + e') (nI t) (6 * r' + e') = nI t from pk_us, show upd (σ 249) (6 * r' + e') y (6 * r' + e') = y from pk_us, fN_nI (by omega)]
          refine ⟨rfl, Iff.rfl, fun z => (p5 z).1, fun hy => ?_⟩
          rw [hbls hy]
          obtain ⟨bg, ap⟩ := p6 hy
          rw [hLk, hLb] at bg ap
          have hvm : ∀ w ∈ bdL σ r' v (tvs (σ 233) (σ 234) (σ 235) t), w ∈ tvs (σ 233) (σ 234) (σ 235) t := fun w hw => (bdL_mem.mp hw).1
          refine ⟨bg.1, ?_, fun q hq => ?_, ?_⟩
          · refine op_len (σ := σ) bdL_nd (fun w hw => ?_) (fun w hw x hx hne he2 => hne ?_)
            · obtain ⟨k', k1, k2, -⟩ := hvu w (hvm w hw)
              exact ⟨k', by omega, k2⟩
            · obtain ⟨k', k1, k2, -, k4, k5, -⟩ := hvu w (hvm w hw)
              obtain ⟨k'', l1, l2, -, l4, l5, -⟩ := hvu x (hvm x hx)
              obtain rfl : k' = k'' := nI_inj (k2.symm.trans (he2.trans l2))
              exact nI_inj (k4.symm.trans l4)
          · obtain ⟨b1, b2⟩ := bg.2.1 q hq
            have hw := hvm _ (List.getElem_mem hq)
            obtain ⟨k', k1, k2, k3, k4, k5, k6⟩ := hvu _ hw
            rw [hLp, k3] at b1 b2
            rw [hlv _ (by omega) (by omega), fN_nI (by omega), k6] at b2
            have c29 : ω (29 + 35 * r' + 5 * e') = τ (28 + 35 * r' + 5 * e' + 1) := by rw [show 29 + 35 * r' + 5 * e' = 28 + 35 * r' + 5 * e' + 1 by omega]; exact cE 1 (by omega)
            have c30 : ω (30 + 35 * r' + 5 * e') = τ (28 + 35 * r' + 5 * e' + 2) := by rw [show 30 + 35 * r' + 5 * e' = 28 + 35 * r' + 5 * e' + 2 by omega]; exact cE 2 (by omega)
            rw [c29, c30, one 241 (by decide), one 240 (by decide), b1, b2, k2]
            exact ⟨rfl, rfl⟩
          · unfold aP opn at ap ⊢
            rw [cA, cE 3 (by omega), cE 4 (by omega), one 233 (by decide), one 234 (by decide), one 235 (by decide)]
            rw [hi 233 (by decide), hi 234 (by decide), hi 235 (by decide)] at ap
            exact ap
        · have he2 : e' < e := by omega
          refine aE_g i.1 i.2.1 hr (by omega) hk2 (by rw [e_et, pk_un (by omega)]) (by rw [e_se, pk_un (by omega)]) ?_ (fun q hq => el _ (by omega) (by omega) (by omega) (by omega) (by omega) (by omega) (by omega)) (g5 e' (by omega))
          unfold bls
          rw [e_et, pk_un (by omega), one 233 (by decide), one 234 (by decide), one 235 (by decide), one 241 (by decide)]
          refine fl_congr (fun w hw => ?_)
          unfold nbv
          rw [hbd _ _ (by omega), hbd _ _ (by omega)]
    · exact fR_aR1 i.1 i.2.1 (hF r' hr2 q) hr2 (ar r' hr2)
  · exact fS_aS1 i.1.1 i.2.1 i.2.2.1 hs ⟨by rw [one 255 (by decide)], fun k _ => by rw [one 256 (by decide)], hO _ (hsr s hs).1 (hsr s hs).2, fun u _ => by rw [one 238 (by decide)], by rw [el _ (by decide) (by decide) (by decide) (by decide) (by omega) (by omega) (by omega)], by rw [el _ (by decide) (by decide) (by decide) (by decide) (by omega) (by omega) (by omega)], fun k _ => by rw [el _ (by decide) (by decide) (by decide) (by decide) (by omega) (by omega) (by omega)]⟩ (as s hs)
  · unfold aU at u ⊢
    rw [el 181 (by decide) (by decide) (by decide) (by decide) (by omega) (by omega) (by omega), el 17 (by decide) (by decide) (by decide) (by decide) (by omega) (by omega) (by omega), el 183 (by decide) (by decide) (by decide) (by decide) (by omega) (by omega) (by omega), el 182 (by decide) (by decide) (by decide) (by decide) (by omega) (by omega) (by omega), eo 52 (by decide), eo 55 (by decide), one 274 (by decide), one 264 (by decide), one 265 (by decide)]
    refine ⟨u.1, fun q => ?_⟩
    obtain ⟨h1, h2, h3, h5, h4⟩ := u.2 q
    refine ⟨h1, h2, h3, h5, fun hg => ?_⟩
    obtain ⟨ds, d1, d2, d4, d5, d3⟩ := h4 hg
    refine ⟨ds, d1, d2, d4, d5, ?_⟩
    rcases i.2.2.2.2.2.1 with i6 | ⟨-, ds', q1, -⟩
    · exact absurd i6 q
    · have ed : ds' = ds := lst_inj (mRn_len i.2.1 i.2.2.1.1 q1) d4 (fun s hs => by have := q1.2.2.1 s hs; have := i.2.2.1.1; omega) (fun s hs => by have := d5 s hs; have := i.2.2.1.1; omega) (q1.1.symm.trans d1) q1.2.1 d2
      subst ed
      have hFr : mFr τ (evS τ W ST2 m2 A) n := mFr_ev τ n W ST2 m2 A
      have hIt : mI τ n b R S C kl := mI_hi hi i
      have q1t : mRn τ n R S ds' := by
        have := q1
        unfold mRn mSn mVk mSt at this ⊢
        rw [hi 232 (by decide), hi 274 (by decide), hi 255 (by decide), hi 264 (by decide), hi 247 (by decide), hi 265 (by decide), hi 244 (by decide), hi 246 (by decide), hi 233 (by decide), hi 234 (by decide), hi 235 (by decide), hi 240 (by decide), hi 245 (by decide), hi 248 (by decide), hi 241 (by decide), hi 249 (by decide)]
        exact this
      have t1 : trRun (evS τ W ST2 m2 A) kl ds' = trRun τ kl ds' := mFr_trRun hIt.1 hIt.2.1 hFr hIt.2.2.2.1 q1t
      have t2 : trRun τ kl ds' = trRun σ kl ds' := trRun_eq ⟨hi _ (by decide), hi _ (by decide), hi _ (by decide), hi _ (by decide), hi _ (by decide), hi _ (by decide), hi _ (by decide), hi _ (by decide), hi _ (by decide)⟩
      have hE0 : mI (evS τ W ST2 m2 A) n b R S C kl := mI_ev hIt W ST2 m2 A
      have q1e : mRn (evS τ W ST2 m2 A) n R S ds' := mFr_Rn hIt.1 hIt.2.1 hFr q1t
      have t3 : trRun ω kl ds' = trRun (evS τ W ST2 m2 A) kl ds' := by
        rw [hω]
        refine ro_trRun hE0.1 (Nat.le_refl _) hE0.2.1 (roF_ev (evS τ W ST2 m2 A) r e (nI t) y) (fun s hs => ?_) (fun t ht => ⟨rfl, rfl⟩) q1e
        have hne := (hsr s hs).2
        rw [show evS τ W ST2 m2 A 255 s = σ 255 s from congrFun (hi _ (by decide)) s]
        have hlt := (hsr s hs).1
        exact ⟨rfl, pk_un hne, rfl, fun k hk => ⟨rfl, rfl, pk_un (by omega), pk_un (by omega)⟩⟩
      rw [t3, t1, t2]
      exact kOk_eq (fun c _ c2 => el c (by omega) (by omega) (by omega) (by omega) (by omega) (by omega) (by omega)) (fun c _ c2 => el c (by omega) (by omega) (by omega) (by omega) (by omega) (by omega) (by omega)) (fun t _ => by rw [one 233 (by decide)]) (one _ (by decide)) d3
