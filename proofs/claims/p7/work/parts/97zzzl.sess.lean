/-! alike: session, the reference's half -/
/-- what the reference's loop has done -/
def seR (σ τ : kS) (n n' S r k : Nat) (a b c : Int32) : Prop := (∀ e, 232 < e → e ∉ rowC → e ≠ 256 → τ e = σ e) ∧ (∀ j, j ∉ rowT → τ 232 j = σ 232 j) ∧ (∀ j, j < 6 * S → τ 256 j = σ 256 j) ∧ (∀ t, t < n → τ 233 t = σ 233 t ∧ τ 234 t = σ 234 t ∧ τ 235 t = σ 235 t) ∧ (∀ t, n ≤ t → t < n' → τ 234 t = -1 ∧ τ 235 t = -1) ∧ seN σ (τ 233) n r k ∧ ∀ i, i < k → τ 256 (6 * S + i) = ssV σ n r a b c i
theorem seR_at {σ τ : kS} {n n' S r k : Nat} {a b c x : Int32} (h : seR σ τ n n' S r k a b c) (hk : k < 6) (hz : ¬ σ 246 (6 * r + k) = nI 1) (hx : x = ssV σ n r a b c k) : seR σ (va_up τ 256 (upd (τ 256) (6 * S + k) x)) n n' S r (k + 1) a b c := by
  obtain ⟨h1, h2, h3, h4, h5, h6, h7⟩ := h
  refine ⟨fun e e1 e2 e3 => by rw [up_ne e3]; exact h1 e e1 e2 e3, h2, fun j hj => ?_, h4, h5, fun i hi ha => ?_, fun i hi => ?_⟩
  · show upd (τ 256) (6 * S + k) x j = _
    rw [pk_un (by omega)]
    exact h3 j hj
  · by_cases e : i = k
    · subst e
      exact absurd ha hz
    · exact h6 i (by omega) ha
  · show upd (τ 256) (6 * S + k) x (6 * S + i) = _
    by_cases e : i = k
    · subst e
      rw [pk_us]
      exact hx
    · rw [pk_un (by omega)]
      exact h7 i (by omega)
theorem seR_new {σ τ ρ : kS} {n S r k so : Nat} {a b c : Int32} (h : seR σ τ n (n + hma σ r 1 k) S r k a b c) (hk : k < 6) (hN : mNw τ ρ (n + hma σ r 1 k) so (-1) (-1)) (hz : σ 246 (6 * r + k) = nI 1) (hso : σ 240 (fN (σ 245 (6 * r + k))) = nI so) (hx : ssV σ n r a b c k = nI (n + hma σ r 1 k)) : seR σ (va_up ρ 256 (upd (ρ 256) (6 * S + k) (nI (n + hma σ r 1 k)))) n (n + hma σ r 1 k + 1) S r (k + 1) a b c := by
  have hG := mGr_new hN
  obtain ⟨h1, h2, h3, h4, h5, h6, h7⟩ := h
  obtain ⟨z, g, nx, hd, jd, hρ, -⟩ := hN
  have e1 : ρ 233 = upd (τ 233) (n + hma σ r 1 k) (nI so) := by rw [hρ]; rfl
  have e2 : ρ 234 = upd (τ 234) (n + hma σ r 1 k) (-1) := by rw [hρ]; rfl
  have e3 : ρ 235 = upd (τ 235) (n + hma σ r 1 k) (-1) := by rw [hρ]; rfl
  have e4 : ρ 256 = τ 256 := hG.1 _ (by decide)
  refine ⟨fun e x1 x2 x3 => by rw [up_ne x3, hG.1 e x2]; exact h1 e x1 x2 x3, fun j hj => (hG.2.1 j hj).trans (h2 j hj), fun j hj => ?_, fun t ht => ?_, fun t t1 t2 => ?_, fun i hi ha => ?_, fun i hi => ?_⟩
  · show upd (ρ 256) (6 * S + k) _ j = _
    rw [pk_un (by omega), e4]
    exact h3 j hj
  · have := hG.2.2 t (by omega)
    have q := h4 t ht
    exact ⟨this.1.trans q.1, this.2.1.trans q.2.1, this.2.2.trans q.2.2⟩
  · show ρ 234 t = -1 ∧ ρ 235 t = -1
    rw [e2, e3]
    by_cases e : t = n + hma σ r 1 k
    · subst e
      exact ⟨pk_us, pk_us⟩
    · rw [pk_un e, pk_un e]
      exact h5 t t1 (by omega)
  · show ρ 233 (n + hma σ r 1 i) = _
    rw [e1]
    by_cases e : i = k
    · subst e
      rw [pk_us, hso]
    · have : hma σ r 1 i < hma σ r 1 k := by
        have := hma_mono σ r 1 (show i + 1 ≤ k by omega)
        rw [hma, if_pos ha] at this
        omega
      rw [pk_un (by omega)]
      exact h6 i (by omega) ha
  · show upd (ρ 256) (6 * S + k) _ (6 * S + i) = _
    rw [e4]
    by_cases e : i = k
    · subst e
      rw [pk_us]
      exact hx.symm
    · rw [pk_un (by omega)]
      exact h7 i (by omega)
set_option maxRecDepth 100000 in
set_option maxHeartbeats 4000000 in
theorem mf_sessionL (L : Nat) (xs : Nat → Int32) (d : Nat) (σ : kS) (n R S C r v : Nat) (kl : List Nat) (a1 a2 a3 h0 : Int32) (hR4 : R ≤ 4) (hr : r < R) (hS : S < 4) (hv6 : v ≤ 6) (hv : σ 244 r = nI v) (hn : n + hma σ r 1 v ≤ 200) (h03 : hma σ r 0 v ≤ 3)
    (hA : ∀ i, i < hma σ r 0 v → ∃ z, z < n ∧ (if i = 0 then a1 else if i = 1 then a2 else a3) = nI z ∧ σ 233 z = 0) (hRo : mRo σ n R) (Q : Option Value → kS → Prop)
    (hQ : ∀ τ n' b', mJ τ n' b' R S C kl → mLow σ τ → seK σ τ n → (∀ i, i < v → ssO τ n' r S i) → n' = n + hma σ r 1 v → seR σ τ n n' S r v a1 a2 a3 → kX kT L xs (d + 4) 170 277 [(0, .ref 232), (1, .int (nI r)), (2, .int a1), (3, .int a2), (4, .int a3)] [] τ Q) :
    ∀ q : Nat × kS, (q.1 ≤ v ∧ ∃ b', mJ q.2 (n + hma σ r 1 q.1) b' R S C kl ∧ mLow σ q.2 ∧ seK σ q.2 n ∧ (∀ i, i < q.1 → ssO q.2 (n + hma σ r 1 q.1) r S i) ∧ seR σ q.2 n (n + hma σ r 1 q.1) S r q.1 a1 a2 a3) → kX kT L xs (d + 4) 170 160 [(7, .int (nI q.1)), (6, .int (nI (hma σ r 0 q.1))), (0, .ref 232), (1, .int (nI r)), (2, .int a1), (3, .int a2), (4, .int a3)] [] q.2 Q := by
  refine kX_while (fun q : Nat × kS => [(7, .int (nI q.1)), (6, .int (nI (hma σ r 0 q.1))), (0, .ref 232), (1, .int (nI r)), (2, .int a1), (3, .int a2), (4, .int a3)]) (fun q => q.2) _ (fun q => v - q.1) ?_
  rintro ⟨k, τ⟩ ⟨i1, b', i2, i3, i4, i5, i6⟩ ih
  dsimp only at i1 i2 i3 i4 i5 i6 ih ⊢
  obtain ⟨s1, s2, s3, s4, s5⟩ := i4
  have hvt : τ 244 r = nI v := by rw [s1]; exact hv
  iterate 4 (refine kX_one rfl ?_)
  refine kX_ialdV rfl rfl (by decide) (r) (by first | rfl | decide) (by omega) (hvt) ?_
  repeat refine kX_one rfl ?_
  refine kX_if (fun q => ?_) (fun q => ?_)
  · have q := qge q k v
    obtain rfl : k = v := by omega
    exact kX_lv _ rfl rfl rfl (hQ τ _ b' i2 i3 ⟨s1, s2, s3, s4, s5⟩ i5 rfl i6)
  · have q := qgeF q k v
    obtain ⟨t, so, as, t1, t2, t3, t4, t5, t6, t7, t8, t9, t10, t11⟩ := hRo.2.2.2.1 r k hr (by rw [hv, fN_nI (by omega)]; exact q)
    have hn200 : n ≤ 200 := by omega
    have key : ∀ (ρ : kS) (x : Int32) (b'' c' n' : Nat) (w : Value), c' = hma σ r 0 (k + 1) → n' = n + hma σ r 1 (k + 1) → mJ ρ n' b'' R S C kl → mLow σ ρ → seK σ ρ n → (∀ i, i < k → ssO ρ n' r S i) → ssO (va_up ρ 256 (upd (ρ 256) (6 * S + k) x)) n' r S k → seR σ (va_up ρ 256 (upd (ρ 256) (6 * S + k) x)) n n' S r (k + 1) a1 a2 a3 → kX kT L xs (d + 4) 170 254 [(9, .int x), (8, w), (7, .int (nI k)), (6, .int (nI c')), (0, .ref 232), (1, .int (nI r)), (2, .int a1), (3, .int a2), (4, .int a3)] [] ρ Q := by
      intro ρ x b'' c' n' w hc' hn' j1 j2 j3 j4 j5 j6
      have hSe := j1.2.2.1.2.1
      repeat refine kX_one rfl ?_
      refine kX_iastN rfl rfl (by decide) (6 * S + k) (by rw [hSe]; exact ix6 S k) (by omega) ?_
      iterate 2 (refine kX_one rfl ?_)
      have := ih (k + 1, va_up ρ 256 (upd (ρ 256) (6 * S + k) x)) ⟨q, b'', by rw [← hn']; exact mJ_at j1, mLow_trans j2 (mLow_up ρ _ (by decide)), j3, fun i hi => by
        simp only at hi ⊢
        rw [← hn']
        by_cases e : i = k
        · subst e
          exact j5
        · exact ssO_at e (j4 i (by omega)), by rw [← hn']; exact j6⟩ (by simp only; omega)
      dsimp only at this
      rw [← nI_1, ← hc'] at this
      exact kX_lv _ rfl rfl rfl this
    have hat : τ 246 (6 * r + k) = nI as := by rw [s2]; exact t9
    have has : as = 0 ∨ as = 1 ∨ as = 2 := by omega
    repeat refine kX_one rfl ?_
    refine kX_ialdV rfl rfl (by decide) (6 * r + k) (ix6 r k) (by omega) hat ?_
    have hstep : ∀ a, hma σ r a (k + 1) = hma σ r a k + if σ 246 (6 * r + k) = nI a then 1 else 0 := fun a => rfl
    rcases has with rfl | rfl | rfl
    · have e0 : hma σ r 0 (k + 1) = hma σ r 0 k + 1 := by rw [hstep, if_pos t9]
      have e1 : hma σ r 1 (k + 1) = hma σ r 1 k := by rw [hstep, if_neg (by rw [t9]; decide), Nat.add_zero]
      have hc3 : hma σ r 0 k < hma σ r 0 v := by
        have := hma_mono σ r 0 (show k + 1 ≤ v from q)
        omega
      obtain ⟨z, z1, z2, z3⟩ := hA _ hc3
      have hso := t10 rfl
      have fin : ∀ x w, x = nI z → kX kT L xs (d + 4) 170 254 [(9, .int x), (8, w), (7, .int (nI k)), (6, .int (nI (hma σ r 0 k + 1))), (0, .ref 232), (1, .int (nI r)), (2, .int a1), (3, .int a2), (4, .int a3)] [] τ Q := by
        intro x w hx
        refine key τ x b' _ (n + hma σ r 1 k) w e0.symm (by rw [e1]) i2 i3 ⟨s1, s2, s3, s4, s5⟩ i5 ⟨0, hat, Or.inr ⟨by omega, z, by omega, by rw [← hx]; exact pk_us, ?_⟩⟩ (seR_at i6 (by omega) (fun z => absurd (t9.symm.trans z) (by decide)) (by rw [ssV, if_pos t9, hx]; exact z2.symm))
        show τ 233 z = τ 240 (fN (τ 245 (6 * r + k)))
        rw [s5 z z1, z3, s3, s4, t2, fN_nI (by omega), t7, hso]
        rfl
      have hc : hma σ r 0 k = 0 ∨ hma σ r 0 k = 1 ∨ hma σ r 0 k = 2 := by omega
      rcases hc with hc | hc | hc
      · rw [hc] at z2 fin ⊢
        iterate 12 (refine kX_one rfl ?_)
        exact kX_lv _ rfl rfl rfl (fin a1 (.int (nI 0)) z2)
      · rw [hc] at z2 fin ⊢
        iterate 15 (refine kX_one rfl ?_)
        exact kX_lv _ rfl rfl rfl (fin a2 (.int (nI 0)) z2)
      · rw [hc] at z2 fin ⊢
        iterate 14 (refine kX_one rfl ?_)
        exact kX_lv _ rfl rfl rfl (fin a3 (.int (nI 0)) z2)
    · have e0 : hma σ r 0 (k + 1) = hma σ r 0 k := by rw [hstep, if_neg (by rw [t9]; decide), Nat.add_zero]
      have e1 : hma σ r 1 (k + 1) = hma σ r 1 k + 1 := by rw [hstep, if_pos t9]
      have hle := hma_mono σ r 1 (show k + 1 ≤ v from q)
      have hvt2 : τ 245 (6 * r + k) = nI t := by rw [s3]; exact t2
      have hst2 : τ 240 t = nI so := by rw [s4]; exact t7
      have hso := t11 rfl
      repeat refine kX_one rfl ?_
      refine kX_ialdV rfl rfl (by decide) (6 * r + k) (ix6 r k) (by omega) hvt2 ?_
      refine kX_ialdV rfl rfl (by decide) (t) (by first | rfl | decide) (by omega) (hst2) ?_
      repeat refine kX_one rfl ?_
      refine kX_cal (mr_last L xs d τ (n + hma σ r 1 k) b' so (-1) (-1) 0 0 i2.1 (by omega) (Or.inl ⟨t6, rfl, rfl⟩) (by omega) (by omega) (by omega) (by unfold msz; rw [if_pos t6]; decide)) rfl (Or.inr rfl) rfl rfl rfl (fun r1 τ1 q1 => ?_)
      obtain ⟨rfl, hN⟩ := q1
      have hG := mGr_new hN
      have e := fun c (hc : c ∉ rowC) => hG.1 c hc
      have hkk : τ1 233 (n + hma σ r 1 k) = nI so := by
        obtain ⟨_, _, _, _, _, rfl, _⟩ := hN
        exact pk_us
      iterate 1 (refine kX_one rfl ?_)
      refine kX_lv _ rfl rfl rfl (key τ1 (nI (n + hma σ r 1 k)) 200 _ (n + hma σ r 1 k + 1) (.int (nI 1)) e0.symm (by rw [e1]; omega) (mJ_new i2 hN (by omega)) (mLow_trans i3 (mLow_gr hG)) ⟨(e _ (by decide)).trans s1, (e _ (by decide)).trans s2, (e _ (by decide)).trans s3, (e _ (by decide)).trans s4, fun u hu => ((hG.2.2 u (by omega)).1).trans (s5 u hu)⟩ (fun i hi => ssO_new (by omega) hN (i5 i hi)) ⟨1, ?_, Or.inr ⟨by omega, n + hma σ r 1 k, by omega, pk_us, ?_⟩⟩ (seR_new i6 (by omega) hN t9 (by rw [t2, fN_nI (by omega)]; exact t7) (by rw [ssV, if_neg (by rw [t9]; decide), if_pos t9])))
      · show τ1 246 (6 * r + k) = nI 1
        rw [e 246 (by decide)]
        exact hat
      · show τ1 233 (n + hma σ r 1 k) = τ1 240 (fN (τ1 245 (6 * r + k)))
        rw [hkk, e 245 (by decide), e 240 (by decide), hvt2, fN_nI (by omega), hst2]
    · have e0 : hma σ r 0 (k + 1) = hma σ r 0 k := by rw [hstep, if_neg (by rw [t9]; decide), Nat.add_zero]
      have e1 : hma σ r 1 (k + 1) = hma σ r 1 k := by rw [hstep, if_neg (by rw [t9]; decide), Nat.add_zero]
      iterate 8 (refine kX_one rfl ?_)
      exact kX_lv _ rfl rfl rfl (key τ (-6) b' _ (n + hma σ r 1 k) _ e0.symm (by rw [e1]) i2 i3 ⟨s1, s2, s3, s4, s5⟩ i5 ⟨2, hat, Or.inl ⟨rfl, pk_us⟩⟩ (seR_at i6 (by omega) (fun z => absurd (t9.symm.trans z) (by decide)) (by rw [ssV, if_neg (by rw [t9]; decide), if_neg (by rw [t9]; decide)])))
/-- the PARAMETERS that matter are TERMS; are AGENTS -/
def parT (n p : Nat) (a b c : Int32) : Prop := (0 < p → isN a n) ∧ (1 < p → isN b n) ∧ (2 < p → isN c n)
def parG (σ : kS) (n p : Nat) (a b c : Int32) : Prop := ∀ i, i < p → ∃ z, z < n ∧ (if i = 0 then a else if i = 1 then b else c) = nI z ∧ σ 233 z = 0
set_option maxRecDepth 100000 in
set_option maxHeartbeats 4000000 in
theorem mg_session (L : Nat) (xs : Nat → Int32) (d : Nat) (σ : kS) (n b R S C : Nat) (kl : List Nat) (x a1 a2 a3 : Int32) (Q : Option Value → kS → Prop) (h : mI σ n b R S C kl) (hU : ¬ isN x R → Q (some (.int (-1))) σ) (hU2 : ∀ r v, r < R → x = nI r → σ 244 r = nI v → v ≤ 6 → ¬ parT n (hma σ r 0 v) a1 a2 a3 → Q (some (.int (-1))) σ) (hS : ∀ r v, r < R → x = nI r → σ 244 r = nI v → v ≤ 6 → parT n (hma σ r 0 v) a1 a2 a3 → σ 232 52 ≠ 0 → Q (some (.int (-3))) σ) (hF : ∀ r v, r < R → x = nI r → σ 244 r = nI v → v ≤ 6 → parT n (hma σ r 0 v) a1 a2 a3 → σ 232 52 = 0 → (S = 4 ∨ 200 < n + hma σ r 1 v) → Q (some (.int (-4))) σ) (hO : ∀ r v, r < R → x = nI r → σ 244 r = nI v → v ≤ 6 → parT n (hma σ r 0 v) a1 a2 a3 → σ 232 52 = 0 → S < 4 → n + hma σ r 1 v ≤ 200 → ¬ (hma σ r 0 v ≤ 3 ∧ parG σ n (hma σ r 0 v) a1 a2 a3) → Q (some (.int (-5))) σ)
    (hN : ∀ r v τ n' b', r < R → x = nI r → σ 244 r = nI v → v ≤ 6 → parT n (hma σ r 0 v) a1 a2 a3 → σ 232 52 = 0 → S < 4 → n + hma σ r 1 v ≤ 200 → hma σ r 0 v ≤ 3 → parG σ n (hma σ r 0 v) a1 a2 a3 → n' = n + hma σ r 1 v → mLow σ τ → seR σ τ n n' S r v a1 a2 a3 → mI (va_up (seS τ S r) 232 (fgO (seS τ S r 232))) n' b' R (S + 1) C kl → Q (some (.int (nI S))) (va_up (seS τ S r) 232 (fgO (seS τ S r 232)))) : kXM kT L xs (d + 4) 170 [.ref 232, .int x, .int a1, .int a2, .int a3] σ Q := by
  have h0 := h
  obtain ⟨h1, h2, h3, h4, h5, h6, h7⟩ := h
  have hn := h1.1
  have hR4 := h2.1
  have hS4 := h3.1
  unfold kXM
  repeat refine kX_one rfl ?_
  refine kX_cal (mr_isRole L xs (d + 2) σ R x h2.2.1 (by omega)) rfl (Or.inr rfl) rfl rfl rfl (fun r1 σ1 q1 => ?_)
  obtain ⟨rfl, rfl⟩ := q1
  repeat refine kX_one rfl ?_
  refine kX_if (fun q => ?_) (fun q => ?_)
  · obtain ⟨r, hr, rfl⟩ := isB_ne.mp (qne q)
    obtain ⟨⟨v, hv6, hv⟩, -⟩ := h2.2.2.1 r hr
    have H0 := hma_le σ r 0 v
    have H1 := hma_le σ r 1 v
    have k154 : parT n (hma σ r 0 v) a1 a2 a3 → σ 232 52 = 0 → S < 4 → n + hma σ r 1 v ≤ 200 → hma σ r 0 v ≤ 3 → (∀ i, i < hma σ r 0 v → ∃ z, z < n ∧ (if i = 0 then a1 else if i = 1 then a2 else a3) = nI z ∧ σ 233 z = 0) → kX kT L xs (d + 4) 170 154 [(5, .int (nI (hma σ r 0 v))), (0, .ref 232), (1, .int (nI r)), (2, .int a1), (3, .int a2), (4, .int a3)] [] σ Q := by
      intro g0 g1 g2 g3 g4 g5
      iterate 4 (refine kX_one rfl ?_)
      refine kX_lv _ rfl rfl rfl (mf_sessionL L xs d σ n R S C r v kl a1 a2 a3 0 hR4 hr g2 hv6 hv g3 g4 g5 h2 _ (fun τ n' b' j1 j2 j3 j4 j5 j6 => ?_) (0, σ) ⟨Nat.zero_le _, b, ⟨h1, h2, h3, h4, h5, g1⟩, mLow_refl σ, ⟨rfl, rfl, rfl, rfl, fun _ _ => rfl⟩, fun i hi => absurd hi (Nat.not_lt_zero i), fun _ _ _ _ => rfl, fun _ _ => rfl, fun _ _ => rfl, fun _ _ => ⟨rfl, rfl, rfl⟩, fun t t1 t2 => absurd t2 (by simp only [hma]; omega), fun k hk => absurd hk (Nat.not_lt_zero k), fun i hi => absurd hi (Nat.not_lt_zero i)⟩)
      have hSe := j1.2.2.1.2.1
      repeat refine kX_one rfl ?_
      refine kX_iastN rfl rfl (by decide) (S) (hSe) (by omega) ?_
      repeat refine kX_one rfl ?_
      refine kX_bastN rfl rfl (by decide) (r) (by first | rfl | decide) (by omega) (Or.inr rfl) ?_
      repeat refine kX_one rfl ?_
      refine kX_st (seS τ S r) ?_ ?_
      · rw [seS, nI_succ S, ← hSe]
        rfl
      refine kX_cal (mr_forget L xs (d + 2) _) rfl (Or.inr rfl) rfl rfl rfl (fun r1 σ1 q1 => ?_)
      obtain ⟨rfl, rfl⟩ := q1
      repeat refine kX_one rfl ?_
      refine kX_top (y := nI S) (nI_pred S) ?_
      refine kX_ret (i := .ireturn) (len := 1) rfl (Or.inr rfl) rfl (hN r v τ n' b' hr rfl hv hv6 g0 g1 g2 g3 g4 g5 j5 j2 j6 (mI_se j1 g2 hr (fun i hi => j4 i (by rw [j3.1, hv, fN_nI (by omega)] at hi; exact hi))))
    have k62 : (0 < hma σ r 0 v → isN a1 n) → (1 < hma σ r 0 v → isN a2 n) → (2 < hma σ r 0 v → isN a3 n) → kX kT L xs (d + 4) 170 62 [(5, .int (nI (hma σ r 0 v))), (0, .ref 232), (1, .int (nI r)), (2, .int a1), (3, .int a2), (4, .int a3)] [] σ Q := by
      intro p1 p2 p3
      have hpt : parT n (hma σ r 0 v) a1 a2 a3 := ⟨p1, p2, p3⟩
      repeat refine kX_one rfl ?_
      refine kX_if (fun q => ?_) (fun q => ?_)
      · have hruns : σ 232 52 = 0 := qeq q
        repeat refine kX_one rfl ?_
        refine kX_if (fun q => ?_) (fun q => ?_)
        · have q : S = 4 := by
            have := qeq q
            rw [h3.2.1] at this
            exact nI_inj this
          repeat refine kX_one rfl ?_
          refine kX_ret (i := .ireturn) (len := 1) rfl (Or.inr rfl) rfl (hF r v hr rfl hv hv6 hpt hruns (Or.inl q))
        · have hS : S ≠ 4 := fun e => qeqF q (by rw [h3.2.1, e]; rfl)
          have hS3 : S < 4 := by omega
          repeat refine kX_one rfl ?_
          refine kX_cal (mr_howManyAs L xs (d + 2) σ r 1 v (by omega) (by omega) hv6 hv) rfl (Or.inr rfl) rfl rfl rfl (fun r1 σ1 q1 => ?_)
          obtain ⟨rfl, rfl⟩ := q1
          have et : σ 232 9 + nI (hma σ r 1 v) = nI (n + hma σ r 1 v) := by rw [h1.2.2.2.1]; exact nI_add _ _
          iterate 1 (refine kX_one rfl ?_)
          refine kX_top (et) ?_
          repeat refine kX_one rfl ?_
          refine kX_if (fun q => ?_) (fun q => ?_)
          · have hle := qle q (n + hma σ r 1 v) 200
            have k135 : hma σ r 0 v ≤ 3 → (0 < hma σ r 0 v → ∃ z, z < n ∧ a1 = nI z ∧ σ 233 z = 0) → (1 < hma σ r 0 v → ∃ z, z < n ∧ a2 = nI z ∧ σ 233 z = 0) → kX kT L xs (d + 4) 170 135 [(5, .int (nI (hma σ r 0 v))), (0, .ref 232), (1, .int (nI r)), (2, .int a1), (3, .int a2), (4, .int a3)] [] σ Q := by
              intro g1 g2 g3
              repeat refine kX_one rfl ?_
              refine kX_if (fun q => ?_) (fun q => ?_)
              · have q := qle q (hma σ r 0 v) 2
                refine k154 hpt hruns hS3 hle g1 (fun i hi => ?_)
                have : i = 0 ∨ i = 1 := by omega
                rcases this with rfl | rfl
                · exact g2 hi
                · exact g3 hi
              · have q := qleF q (hma σ r 0 v) 2
                obtain ⟨z, hz, rfl⟩ := p3 q
                repeat refine kX_one rfl ?_
                refine kX_ialdN rfl rfl (by decide) (z) (by first | rfl | decide) (by omega) ?_
                repeat refine kX_one rfl ?_
                refine kX_if (fun q2 => ?_) (fun q2 => ?_)
                · refine k154 hpt hruns hS3 hle g1 (fun i hi => ?_)
                  have : i = 0 ∨ i = 1 ∨ i = 2 := by omega
                  rcases this with rfl | rfl | rfl
                  · exact g2 hi
                  · exact g3 hi
                  · exact ⟨z, hz, rfl, qeq q2⟩
                · have q2 := qeqF q2
                  have hq : ¬ (hma σ r 0 v ≤ 3 ∧ parG σ n (hma σ r 0 v) (a1) a2 (nI z)) := fun e => by
                    obtain ⟨z', y1, y2, y3⟩ := e.2 2 (by omega)
                    obtain rfl : z = z' := nI_inj y2
                    exact q2 y3
                  repeat refine kX_one rfl ?_
                  refine kX_ret (i := .ireturn) (len := 1) rfl (Or.inr rfl) rfl (hO r v hr rfl hv hv6 hpt hruns hS3 hle hq)
            have k120 : hma σ r 0 v ≤ 3 → (0 < hma σ r 0 v → ∃ z, z < n ∧ a1 = nI z ∧ σ 233 z = 0) → kX kT L xs (d + 4) 170 120 [(5, .int (nI (hma σ r 0 v))), (0, .ref 232), (1, .int (nI r)), (2, .int a1), (3, .int a2), (4, .int a3)] [] σ Q := by
              intro g1 g2
              repeat refine kX_one rfl ?_
              refine kX_if (fun q => ?_) (fun q => ?_)
              · have q := qle q (hma σ r 0 v) 1
                exact k135 g1 g2 (fun z => by omega)
              · have q := qleF q (hma σ r 0 v) 1
                obtain ⟨z, hz, rfl⟩ := p2 q
                repeat refine kX_one rfl ?_
                refine kX_ialdN rfl rfl (by decide) (z) (by first | rfl | decide) (by omega) ?_
                repeat refine kX_one rfl ?_
                refine kX_if (fun q2 => ?_) (fun q2 => ?_)
                · have q2 := qne q2
                  have hq : ¬ (hma σ r 0 v ≤ 3 ∧ parG σ n (hma σ r 0 v) a1 (nI z) a3) := fun e => by
                    obtain ⟨z', y1, y2, y3⟩ := e.2 1 (by omega)
                    obtain rfl : z = z' := nI_inj y2
                    exact q2 y3
                  repeat refine kX_one rfl ?_
                  refine kX_ret (i := .ireturn) (len := 1) rfl (Or.inr rfl) rfl (hO r v hr rfl hv hv6 hpt hruns hS3 hle hq)
                · exact k135 g1 g2 (fun _ => ⟨z, hz, rfl, qneF q2⟩)
            repeat refine kX_one rfl ?_
            refine kX_if (fun q => ?_) (fun q => ?_)
            · have q := qgt q (hma σ r 0 v) 3
              repeat refine kX_one rfl ?_
              refine kX_ret (i := .ireturn) (len := 1) rfl (Or.inr rfl) rfl (hO r v hr rfl hv hv6 hpt hruns hS3 hle (fun e => by have := e.1; omega))
            · have g1 := qgtF q (hma σ r 0 v) 3
              repeat refine kX_one rfl ?_
              refine kX_if (fun q => ?_) (fun q => ?_)
              · have q := qle q (hma σ r 0 v) 0
                exact k120 g1 (fun z => by omega)
              · have q := qleF q (hma σ r 0 v) 0
                obtain ⟨z, hz, rfl⟩ := p1 q
                repeat refine kX_one rfl ?_
                refine kX_ialdN rfl rfl (by decide) (z) (by first | rfl | decide) (by omega) ?_
                repeat refine kX_one rfl ?_
                refine kX_if (fun q2 => ?_) (fun q2 => ?_)
                · have q2 := qne q2
                  have hq : ¬ (hma σ r 0 v ≤ 3 ∧ parG σ n (hma σ r 0 v) (nI z) a2 a3) := fun e => by
                    obtain ⟨z', y1, y2, y3⟩ := e.2 0 (by omega)
                    obtain rfl : z = z' := nI_inj y2
                    exact q2 y3
                  repeat refine kX_one rfl ?_
                  refine kX_ret (i := .ireturn) (len := 1) rfl (Or.inr rfl) rfl (hO r v hr rfl hv hv6 hpt hruns hS3 hle hq)
                · exact k120 g1 (fun _ => ⟨z, hz, rfl, qneF q2⟩)
          · have hle := qleF q (n + hma σ r 1 v) 200
            repeat refine kX_one rfl ?_
            refine kX_ret (i := .ireturn) (len := 1) rfl (Or.inr rfl) rfl (hF r v hr rfl hv hv6 hpt hruns (Or.inr hle))
      · have q := qeqF q
        repeat refine kX_one rfl ?_
        refine kX_ret (i := .ireturn) (len := 1) rfl (Or.inr rfl) rfl (hS r v hr rfl hv hv6 hpt q)
    have k45 : (0 < hma σ r 0 v → isN a1 n) → (1 < hma σ r 0 v → isN a2 n) → kX kT L xs (d + 4) 170 45 [(5, .int (nI (hma σ r 0 v))), (0, .ref 232), (1, .int (nI r)), (2, .int a1), (3, .int a2), (4, .int a3)] [] σ Q := by
      intro p1 p2
      repeat refine kX_one rfl ?_
      refine kX_if (fun q => ?_) (fun q => ?_)
      · have q := qle q (hma σ r 0 v) 2
        exact k62 p1 p2 (fun z => by omega)
      · have q0 := qleF q (hma σ r 0 v) 2
        repeat refine kX_one rfl ?_
        refine kX_cal (mr_isTerm L xs (d + 2) σ n a3 h1.2.2.2.1 (by omega)) rfl (Or.inr rfl) rfl rfl rfl (fun r1 σ1 q1 => ?_)
        obtain ⟨rfl, rfl⟩ := q1
        repeat refine kX_one rfl ?_
        refine kX_if (fun q => ?_) (fun q => ?_)
        · exact k62 p1 p2 (fun _ => isB_ne.mp (qne q))
        · have q := qneF q
          repeat refine kX_one rfl ?_
          refine kX_ret (i := .ireturn) (len := 1) rfl (Or.inr rfl) rfl (hU2 r v hr rfl hv hv6 (fun e => isB_ne.mpr (e.2.2 q0) q))
    have k31 : (0 < hma σ r 0 v → isN a1 n) → kX kT L xs (d + 4) 170 31 [(5, .int (nI (hma σ r 0 v))), (0, .ref 232), (1, .int (nI r)), (2, .int a1), (3, .int a2), (4, .int a3)] [] σ Q := by
      intro p1
      repeat refine kX_one rfl ?_
      refine kX_if (fun q => ?_) (fun q => ?_)
      · have q := qle q (hma σ r 0 v) 1
        exact k45 p1 (fun z => by omega)
      · have q0 := qleF q (hma σ r 0 v) 1
        repeat refine kX_one rfl ?_
        refine kX_cal (mr_isTerm L xs (d + 2) σ n a2 h1.2.2.2.1 (by omega)) rfl (Or.inr rfl) rfl rfl rfl (fun r1 σ1 q1 => ?_)
        obtain ⟨rfl, rfl⟩ := q1
        repeat refine kX_one rfl ?_
        refine kX_if (fun q => ?_) (fun q => ?_)
        · have q := qeq q
          repeat refine kX_one rfl ?_
          refine kX_ret (i := .ireturn) (len := 1) rfl (Or.inr rfl) rfl (hU2 r v hr rfl hv hv6 (fun e => isB_ne.mpr (e.2.1 q0) q))
        · exact k45 p1 (fun _ => isB_ne.mp (qeqF q))
    repeat refine kX_one rfl ?_
    refine kX_cal (mr_howManyAs L xs (d + 2) σ r 0 v (by omega) (by omega) hv6 hv) rfl (Or.inr rfl) rfl rfl rfl (fun r1 σ1 q1 => ?_)
    obtain ⟨rfl, rfl⟩ := q1
    repeat refine kX_one rfl ?_
    refine kX_if (fun q => ?_) (fun q => ?_)
    · have q := qle q (hma σ r 0 v) 0
      exact k31 (fun z => by omega)
    · have q0 := qleF q (hma σ r 0 v) 0
      repeat refine kX_one rfl ?_
      refine kX_cal (mr_isTerm L xs (d + 2) σ n a1 h1.2.2.2.1 (by omega)) rfl (Or.inr rfl) rfl rfl rfl (fun r1 σ1 q1 => ?_)
      obtain ⟨rfl, rfl⟩ := q1
      repeat refine kX_one rfl ?_
      refine kX_if (fun q => ?_) (fun q => ?_)
      · have q := qeq q
        repeat refine kX_one rfl ?_
        refine kX_ret (i := .ireturn) (len := 1) rfl (Or.inr rfl) rfl (hU2 r v hr rfl hv hv6 (fun e => isB_ne.mpr (e.1 q0) q))
      · exact k31 (fun _ => isB_ne.mp (qeqF q))
  · have q := qneF q
    repeat refine kX_one rfl ?_
    refine kX_ret (i := .ireturn) (len := 1) rfl (Or.inr rfl) rfl (hU (fun e => isB_ne.mpr e q))
