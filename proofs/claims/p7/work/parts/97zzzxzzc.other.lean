/-! alike: an intruder stays when another one fills his table -/
section OT
variable {σ ω : kS} {K st n u m : Nat} {l : rwT}
/-- as far as the TERMS of the intruder K go, ω is as σ -/
def otE (σ ω : kS) (K st n u : Nat) : Prop := (∀ z, kV n st u z → ω 2 z = σ 2 z ∧ ω 3 z = σ 3 z ∧ ω 4 z = σ 4 z ∧ ω 5 z = σ 5 z ∧ ω 6 z = σ 6 z) ∧ ω 11 = σ 11 ∧ (∀ c, K ≤ c → c < K + 9 → ω c = σ c) ∧ mA ω = mA σ ∧ ω 238 = σ 238
theorem ot_V (h : kTb σ K st n u) : ∀ t, kV n st u t → t < 100000 ∧ tOk (kV n st u) (kAG σ n) (σ 2) (σ 3) (σ 4) t := h.2.2.2.1.1
theorem ot_A {α : Type} {lf lf' : Nat → α} {nd : Nat → α → Option α → α} (h : kTb σ K st n u) (e : otE σ ω K st n u) (hl : ∀ t, kV n st u t → lf' t = lf t) {z : Nat} (hz : kV n st u z) : tA lf' nd (ω 2) (ω 3) (ω 4) z = tA lf nd (σ 2) (σ 3) (σ 4) z :=
  tA_congr (ot_V h) (fun t ht => by obtain ⟨a, b, c, -⟩ := e.1 t ht; exact ⟨a, b, c, hl t ht⟩) z hz
theorem ot_kTv (h : kTb σ K st n u) (e : otE σ ω K st n u) {z : Nat} (hz : kV n st u z) : kTv ω z = kTv σ z := ot_A h e (fun _ _ => rfl) hz
theorem ot_gd (h : kTb σ K st n u) (e : otE σ ω K st n u) {z : Nat} (hz : kV n st u z) : tgd (ω 2) (ω 3) (ω 4) z = tgd (σ 2) (σ 3) (σ 4) z := ot_A h e (fun t ht => by rw [(e.1 t ht).1]) hz
theorem ot_AG (e : otE σ ω K st n u) : kAG ω n = kAG σ n := by
  funext t
  unfold kAG
  refine propext (and_congr_right (fun ht => ?_))
  rw [(e.1 t (Or.inl ht)).1, e.2.1]
theorem kTb_ot (h : kTb σ K st n u) (e : otE σ ω K st n u) : kTb ω K st n u := by
  have eK : ω K = σ K := e.2.2.1 K (by omega) (by omega)
  obtain ⟨h1, h2, h3, h4, h5, h6⟩ := id h
  refine ⟨h1, by rw [eK]; exact h2, by rw [eK]; exact h3, ⟨fun t ht => ⟨(h4.1 t ht).1, ?_⟩, fun t ht => ?_, fun t v ht hv q1 q2 q3 q4 => ?_⟩, fun g g1 g2 => ?_, ?_⟩
  · rw [ot_AG e]
    exact tOk_mono (fun _ _ q => q) (fun _ _ q => q) (e.1 t ht).1 (e.1 t ht).2.1 (e.1 t ht).2.2.1 (h4.1 t ht).2
  · rw [(e.1 t ht).2.2.2.1, h4.2.1 t ht]
    unfold tsz
    rw [ot_A h e (fun _ _ => rfl) ht]
  · obtain ⟨a1, a2, a3, -⟩ := e.1 t ht
    obtain ⟨b1, b2, b3, -⟩ := e.1 v hv
    rw [a1] at q1 q2
    rw [b1] at q2
    rw [a2, b2] at q3
    rw [a3, b3] at q4
    exact h4.2.2 t v ht hv q1 q2 q3 q4
  · have hg : kV n st u g := Or.inr ⟨g1, g2⟩
    obtain ⟨a1, a2, a3⟩ := h5 g g1 g2
    refine ⟨by rw [(e.1 g hg).1]; exact a1, by rw [ot_gd h e hg]; exact a2, ?_⟩
    have : tdp (ω 2) (ω 3) (ω 4) g = tdp (σ 2) (σ 3) (σ 4) g := ot_A h e (fun _ _ => rfl) hg
    rw [this]
    exact a3
  · rw [e.2.2.1 (K + 1) (by omega) (by omega)]
    have g1 := hcP_congr (V' := fun g => st ≤ g ∧ g < st + u) (pl' := cpt ω) (fun _ => Iff.rfl) (fun g hg => by
      obtain ⟨a1, a2, a3, -⟩ := e.1 g (Or.inr hg)
      unfold cpt
      rw [a1, a2, a3]) h6
    exact ⟨g1.1, fun t ht => by rw [(e.1 t (Or.inr ht)).2.2.2.2]; exact g1.2 t ht⟩
theorem ot_In (h : kTb σ K st n u) (hl : ∀ t, rwI l t → kV n st u t) (e : otE σ ω K st n u) : kIn ω l = kIn σ l := by
  funext g
  unfold kIn
  refine propext (exists_congr (fun t => and_congr_right (fun ht => ?_)))
  rw [ot_kTv h e (hl t ht)]
theorem kRw_ot (h : kTb σ K st n u) (hR : kRw σ K st n u m l) (e : otE σ ω K st n u) : kRw ω K st n u m l := by
  have hl : ∀ t, rwI l t → kV n st u t := fun t ht => (hR.2.2.1 t ht).1
  have hk : ∀ g, kV n st u g → kMk ω l g = kMk σ l g := fun g hg => by
    unfold kMk
    rw [ot_In h hl e, e.2.2.2.1, e.2.2.2.2, ot_kTv h e hg]
  have ec : ∀ j, j < 9 → ω (K + j) = σ (K + j) := fun j hj => e.2.2.1 _ (by omega) (by omega)
  obtain ⟨r1, r2, r3, r4, r5, r6, r7, r8⟩ := hR
  refine ⟨by rw [e.2.2.1 K (by omega) (by omega)]; exact r1, ?_, fun t ht => ⟨(r3 t ht).1, by rw [ot_gd h e (r3 t ht).1]; exact (r3 t ht).2⟩, r4, ?_, fun a ha => ?_, ?_, fun g hg hgd => ?_⟩
  · rw [ec 2 (by omega), ec 3 (by omega), ec 4 (by omega)]
    exact r2
  · rw [ec 5 (by omega)]
    exact r5
  · rw [ec 7 (by omega), r6 a ha]
    refine exists_congr (fun t => and_congr_right (fun ht => ?_))
    rw [(e.1 t (hl t ht)).1, (e.1 t (hl t ht)).2.1]
  · rw [ec 6 (by omega)]
    exact r7
  · rw [ot_gd h e hg] at hgd
    rw [ec 6 (by omega), e.2.2.1 K (by omega) (by omega), hk g hg]
    exact r8 g hg hgd
theorem kTr_ot (h : kTb σ K st n u) (hl : ∀ t, rwI l t → kV n st u t) (e : otE σ ω K st n u) : kTr ω l = kTr σ l := by
  unfold kTr
  refine List.map_congr_left (fun q hq => ?_)
  rw [ot_kTv h e (hl q.1 ⟨q, hq, rfl⟩)]
theorem kQf_ot (h : kQf σ K st n u m) (e : otE σ ω K st n u) : kQf ω K st n u m := fun g g1 g2 => by
  rw [e.2.2.1 (K + 5) (by omega) (by omega), e.2.2.1 (K + 6) (by omega) (by omega)]
  exact h g g1 g2
theorem kOk_ot {tr : trT} (h : kOk σ K st n tr) (e : ∀ u, u ≤ 576 → otE σ ω K st n u) : kOk ω K st n tr := by
  obtain ⟨u, m, l, h1, h2, h3, h4, h5, h6, h7, h8⟩ := h
  have e := e u h3.1
  exact ⟨u, m, l, h1, h2, kTb_ot h3 e, kMs_eq e.2.2.1 h4, kRw_ot h3 h5 e, (kTr_ot h3 (fun t ht => (h5.2.2.1 t ht).1) e).trans h6, by rw [e.2.2.1 K (by omega) (by omega)]; exact h7, kQf_ot h8 e⟩
theorem iE_ot (h : iE σ K st n u m l) (e : otE σ ω K st n u) (e1 : ω 1 = σ 1) (eA : ∀ t, t < n → aT1 ω t) : iE ω K st n u m l ∧ kTr ω l = kTr σ l := by
  obtain ⟨h1, h2, h3, h4, h5, h6, h7, h8, h9, h10⟩ := h
  refine ⟨⟨h1, h2, by rw [e1]; exact h3, eA, kTb_ot h5 e, kMs_eq e.2.2.1 h6, h7, kRw_ot h5 h8 e, fun t ht => ?_, kQf_ot h10 e⟩, kTr_ot h5 (fun t ht => (h8.2.2.1 t ht).1) e⟩
  have : kDp ω t = kDp σ t := ot_A h5 e (fun _ _ => rfl) (Or.inl ht)
  rw [this]
  exact h9 t ht
end OT
/-- one intruder fills, another stays -/
theorem nF2_ot {σ ω : kS} {K st K' st' n u : Nat} (hK : isK K st) (hK' : isK K' st') (hne : K ≠ K') (hF : nF2 σ ω K' st') (hn : n ≤ 200) (hu : u ≤ 576) : otE σ ω K st n u := by
  have b := isK_b hK
  have b' := isK_b hK'
  have hd : K + 9 ≤ K' ∨ K' + 9 ≤ K := by
    rcases hK with ⟨k1, k2⟩ | ⟨k1, k2⟩ | ⟨k1, k2⟩ <;> rcases hK' with ⟨k3, k4⟩ | ⟨k3, k4⟩ | ⟨k3, k4⟩ <;> omega
  have hst : st + 576 ≤ st' ∨ st' + 576 ≤ st := by
    rcases hK with ⟨k1, k2⟩ | ⟨k1, k2⟩ | ⟨k1, k2⟩ <;> rcases hK' with ⟨k3, k4⟩ | ⟨k3, k4⟩ | ⟨k3, k4⟩ <;> omega
  have hc : ∀ c, c < K' ∨ K' + 9 ≤ c → 7 ≤ c → ω c = σ c := fun c c1 c2 => hF.1.1 c c1 (by omega) (by omega) (by omega) (by omega) (by omega)
  refine ⟨fun z hz => ?_, hc _ (by omega) (by decide), fun c c1 c2 => hc c (by omega) (by omega), ?_, hc _ (by omega) (by decide)⟩
  · have hz' : z < st' ∨ st' + 576 ≤ z := by unfold kV at hz; omega
    obtain ⟨a1, a2, a3, a4⟩ := hF.1.2 z hz'
    exact ⟨a1, a2, a3, hF.2 z hz', a4⟩
  · funext t
    unfold mA
    rw [hc 233 (by omega) (by decide)]
theorem nF2_aT1 {σ ω : kS} {K st n : Nat} (hK : isK K st) (hF : nF2 σ ω K st) (hn : n ≤ 200) (h : ∀ t, t < n → aT1 σ t) : ∀ t, t < n → aT1 ω t := fun t ht => by
  have b := isK_b hK
  have hc : ∀ c, c < K ∨ K + 9 ≤ c → 7 ≤ c → ω c = σ c := fun c c1 c2 => hF.1.1 c c1 (by omega) (by omega) (by omega) (by omega) (by omega)
  obtain ⟨a1, a2, a3, -⟩ := hF.1.2 t (by omega)
  have a5 := hF.2 t (by omega)
  have := h t ht
  unfold aT1 at this ⊢
  rw [a1, a2, a3, a5, hc 8 (by omega) (by decide), hc 9 (by omega) (by decide), hc 10 (by omega) (by decide), hc 11 (by omega) (by decide), hc 12 (by omega) (by decide), hc 233 (by omega) (by decide), hc 234 (by omega) (by decide), hc 235 (by omega) (by decide), hc 236 (by omega) (by decide), hc 237 (by omega) (by decide), hc 238 (by omega) (by decide), hc 239 (by omega) (by decide), hc 240 (by omega) (by decide), hc 241 (by omega) (by decide)]
  exact this
