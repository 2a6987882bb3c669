section
/-! alike: all STATES of THE SEARCH, and the way back from one -/
abbrev xT := List ((Nat → Int32) × Int32 × Int32)
def xq (l : xT) (i : Nat) : (Nat → Int32) × Int32 × Int32 := l.getD i (fun _ => 0, 0, 0)
theorem xq_lt {l : xT} {q : (Nat → Int32) × Int32 × Int32} {i : Nat} (h : i < l.length) : xq (l ++ [q]) i = xq l i := by
  unfold xq
  rw [List.getD_eq_getElem?_getD, List.getD_eq_getElem?_getD, List.getElem?_append_left h]
theorem xq_eq {l : xT} {q : (Nat → Int32) × Int32 × Int32} : xq (l ++ [q]) l.length = q := by
  unfold xq
  rw [List.getD_eq_getElem?_getD, List.getElem?_append_right (Nat.le_refl _), Nat.sub_self]
  rfl
theorem xq_mem {l : xT} {a : Nat → Int32} : (∃ q ∈ l, q.1 = a) ↔ ∃ i, i < l.length ∧ (xq l i).1 = a := by
  have key : ∀ i (h : i < l.length), xq l i = l[i]'h := fun i h => by
    unfold xq
    rw [List.getD_eq_getElem?_getD, List.getElem?_eq_getElem h]
    rfl
  refine ⟨fun ⟨q, h1, h2⟩ => ?_, fun ⟨i, h1, h2⟩ => ⟨xq l i, ?_, h2⟩⟩
  · obtain ⟨i, hi, rfl⟩ := List.getElem_of_mem h1
    exact ⟨i, hi, by rw [key i hi]; exact h2⟩
  · rw [key i h1]
    exact List.getElem_mem h1
/-- all STATES hold -/
def xOk (σ : kS) (n R S : Nat) (l : xT) : Prop := l.length ≤ 600 ∧ ∀ i, i < l.length → aOk σ n R S (xq l i).1 ∧ (i = 0 → ∀ s, s < S → (xq l i).1 (7 * s) = 0) ∧ (0 < i → ∃ j mv, j < i ∧ (xq l i).2.1 = nI j ∧ (xq l i).2.2 = nI mv ∧ stp S (aD (xq l j).1) (aV (xq l j).1) (aD (xq l i).1) (aV (xq l i).1) mv)
theorem xOk_nil (σ : kS) (n R S : Nat) : xOk σ n R S [] := ⟨Nat.zero_le _, fun i hi => absurd hi (Nat.not_lt_zero i)⟩
theorem xOk_push {σ : kS} {n R S : Nat} {l : xT} {a : Nat → Int32} {f y : Int32} (h : xOk σ n R S l) (hl : l.length < 600) (ha : aOk σ n R S a) (hp : (l.length = 0 ∧ ∀ s, s < S → a (7 * s) = 0) ∨ ∃ j mv, j < l.length ∧ f = nI j ∧ y = nI mv ∧ stp S (aD (xq l j).1) (aV (xq l j).1) (aD a) (aV a) mv) : xOk σ n R S (l ++ [(a, f, y)]) := by
  have hlen : (l ++ [(a, f, y)]).length = l.length + 1 := by rw [List.length_append]; rfl
  refine ⟨by omega, fun i hi => ?_⟩
  by_cases e : i = l.length
  · subst e
    rw [xq_eq]
    refine ⟨ha, fun z => ?_, fun z => ?_⟩
    · rcases hp with q | ⟨j, mv, j1, -⟩
      · exact q.2
      · omega
    · rcases hp with q | ⟨j, mv, j1, j2, j3, j4⟩
      · omega
      · refine ⟨j, mv, j1, j2, j3, ?_⟩
        rw [xq_lt j1]
        exact j4
  · have hi' : i < l.length := by omega
    obtain ⟨g1, g2, g3⟩ := h.2 i hi'
    rw [xq_lt hi']
    refine ⟨g1, g2, fun z => ?_⟩
    obtain ⟨j, mv, j1, j2, j3, j4⟩ := g3 z
    refine ⟨j, mv, j1, j2, j3, ?_⟩
    rw [xq_lt (by omega)]
    exact j4
/-- the reference with these STATES -/
def xI (σ : kS) (l : xT) : kS := va_up (va_up (va_up (va_up (va_up σ 284 (fun j => aD (xq l (j / 4)).1 (j % 4))) 285 (fun j => aV (xq l (j / 24)).1 (j % 24))) 286 (fun i => (xq l i).2.1)) 287 (fun i => (xq l i).2.2)) 232 (upd (σ 232) 69 (nI l.length))
theorem xI_sf (σ : kS) (l : xT) (n : Nat) : mSf σ (xI σ l) n := mSf_trans (mSf_up (c := 284) (by decide)) (mSf_trans (mSf_up (c := 285) (by decide)) (mSf_trans (mSf_up (c := 286) (by decide)) (mSf_trans (mSf_up (c := 287) (by decide)) (mSf_o (σ := va_up (va_up (va_up (va_up σ 284 (fun j => aD (xq l (j / 4)).1 (j % 4))) 285 (fun j => aV (xq l (j / 24)).1 (j % 24))) 286 (fun i => (xq l i).2.1)) 287 (fun i => (xq l i).2.2)) (j := 69) (by decide)))))
theorem xI_Ss {σ : kS} {n b R S : Nat} {l : xT} (h : mTb σ n b) (hR : mRo σ n R) (hS4 : S ≤ 4) (hx : xOk σ n R S l) : mSs (xI σ l) n R S l.length := by
  have d : ∀ i s, s < 4 → stD (xI σ l) i s = aD (xq l i).1 s := fun i s hs => by
    show aD (xq l ((4 * i + s) / 4)).1 ((4 * i + s) % 4) = _
    rw [show (4 * i + s) / 4 = i by omega, show (4 * i + s) % 4 = s by omega]
  have v : ∀ i s k, s < 4 → k < 6 → stV (xI σ l) i (6 * s + k) = aV (xq l i).1 (6 * s + k) := fun i s k hs hk => by
    show aV (xq l ((24 * i + (6 * s + k)) / 24)).1 ((24 * i + (6 * s + k)) % 24) = _
    rw [show (24 * i + (6 * s + k)) / 24 = i by omega, show (24 * i + (6 * s + k)) % 24 = 6 * s + k by omega]
  refine ⟨hx.1, by show upd (σ 232) 69 (nI l.length) 69 = _; rw [pk_us], fun i hi => ?_⟩
  obtain ⟨g1, g2, g3⟩ := hx.2 i hi
  refine ⟨cfg_ext (fun s hs => d i s (by omega)) (fun s k hs hk => v i s k (by omega) hk) (cfg_sf h hR (xI_sf σ l n) g1.2.1), fun e s hs => ?_, fun e => ?_⟩
  · rw [d i s (by omega)]
    exact g2 e s hs
  · obtain ⟨j, mv, j1, j2, j3, j4⟩ := g3 e
    exact ⟨j, mv, j1, j2, j3, stp_ext (fun s hs => d j s (by omega)) (fun s k hs hk => v j s k (by omega) hk) (fun s hs => d i s (by omega)) (fun s k hs hk => v i s k (by omega) hk) j4⟩
theorem tpI_1 (f : Nat → Int32) (l : Nat) : ∀ j, tpI f l (j + 1) = tpI f (fN (f l)) j
  | 0 => rfl
  | j + 1 => by
    show fN (f (tpI f l (j + 1))) = fN (f (tpI f (fN (f l)) j))
    rw [tpI_1 f l j]
/-- the way back, as a list and by its parents -/
theorem pth_tp {σ : kS} {P : Nat → Int32} {N : Nat} (hN : N ≤ 600) (hP : ∀ i, 0 < i → i < N → P i = σ 286 i) : ∀ (lp : List (Nat × Nat)) (i : Nat), i < N → pthR σ i lp → (∀ j, j < lp.length → 0 < tpI P i j) ∧ tpI P i lp.length = 0 ∧ (∀ j, j ≤ lp.length → tpI P i j < N) ∧ ∀ j (h : j < lp.length), (lp[j]'h).2 = tpI P i j ∧ σ 287 (tpI P i j) = nI (lp[j]'h).1
  | [], i, hi, h => ⟨fun j hj => absurd hj (Nat.not_lt_zero j), h, fun j hj => by
      obtain rfl : j = 0 := Nat.le_zero.mp hj
      exact hi, fun j hj => absurd hj (Nat.not_lt_zero j)⟩
  | (m, i') :: lp, i, hi, h => by
    obtain ⟨rfl, h0, h1, j, j1, j2, j3⟩ := h
    have hf : fN (P i') = j := by
      rw [hP i' h0 hi, j2]
      exact fN_nI (by omega)
    obtain ⟨a1, a2, a3, a4⟩ := pth_tp hN hP lp j (by omega) j3
    refine ⟨fun q hq => ?_, ?_, fun q hq => ?_, fun q hq => ?_⟩
    · cases q with
      | zero => exact h0
      | succ q =>
        rw [tpI_1, hf]
        exact a1 q (by simpa using hq)
    · rw [List.length_cons, tpI_1, hf]
      exact a2
    · cases q with
      | zero => exact hi
      | succ q =>
        rw [tpI_1, hf]
        exact a3 q (by simpa using hq)
    · cases q with
      | zero => exact ⟨rfl, h1⟩
      | succ q =>
        rw [tpI_1, hf]
        exact a4 q (by simpa using hq)
/-- the way back from the last STATE -/
theorem x_path {σ : kS} {n b R S : Nat} {l : xT} (h : mTb σ n b) (hR : mRo σ n R) (hS4 : S ≤ 4) (hx : xOk σ n R S l) (hl : 0 < l.length) : ∃ D, D ≤ 24 ∧ ∀ P : Nat → Int32, (∀ i, 0 < i → i < l.length → P i = (xq l i).2.1) → (∀ j, j < D → 0 < tpI P (l.length - 1) j) ∧ tpI P (l.length - 1) D = 0 := by
  have hT : mTb (xI σ l) n b := h
  have hR2 : mRo (xI σ l) n R := mSf_Ro h (xI_sf σ l n) hR
  have hSs := xI_Ss h hR hS4 hx
  obtain ⟨lp, p1, p2⟩ := pth_ex hSs (l.length - 1) (by omega)
  refine ⟨lp.length, pth_24 hR2 hS4 hSs hl p2, fun P hP => ?_⟩
  obtain ⟨a1, a2, -⟩ := pth_tp (σ := xI σ l) (P := P) hx.1 hP lp (l.length - 1) (by omega) p1
  exact ⟨a1, a2⟩
end
section
/-! alike: an intruder stays when another one fills his table -/
section OT
variable {σ ω : kS} {K st n u m : Nat} {l : rwT}
/-- as far as the TERMS of the intruder K go, ω is as σ -/
def otE (σ ω : kS) (K st n u : Nat) : Prop := (∀ z, kV n st u z → ω 2 z = σ 2 z ∧ ω 3 z = σ 3 z ∧ ω 4 z = σ 4 z ∧ ω 5 z = σ 5 z ∧ ω 6 z = σ 6 z) ∧ ω 11 = σ 11 ∧ (∀ c, K ≤ c → c < K + 9 → ω c = σ c) ∧ mA ω = mA σ ∧ ω 238 = σ 238
theorem ot_V (h : kTb σ K st n u) : ∀ t, kV n st u t → t < 100000 ∧ tOk (kV n st u) (kAG σ n) (σ 2) (σ 3) (σ 4) t := h.2.2.2.1.1
theorem ot_A {α : Type} {lf lf' : Nat → α} {nd : Nat → α → Option α → α} (h : kTb σ K st n u) (e : otE σ ω K st n u) (hl : ∀ t, kV n st u t → lf' t = lf t) {z : Nat} (hz : kV n st u z) : tA lf' nd (ω 2) (ω 3) (ω 4) z = tA lf nd (σ 2) (σ 3) (σ 4) z :=
  tA_congr (ot_V h) (fun t ht => by obtain ⟨a, b, c, -⟩ := e.1 t ht; exact ⟨a, b, c, hl t ht⟩) z hz
theorem ot_kTv (h : kTb σ K st n u) (e : otE σ ω K st n u) {z : Nat} (hz : kV n st u z) : kTv ω z = kTv σ z := ot_A h e (fun _ _ => rfl) hz
theorem ot_gd (h : kTb σ K st n u) (e : otE σ ω K st n u) {z : Nat} (hz : kV n st u z) : tgd (ω 2) (ω 3) (ω 4) z = tgd (σ 2) (σ 3) (σ 4) z := ot_A h e (fun t ht => by rw [(e.1 t ht).1]) hz
theorem ot_AG (e : otE σ ω K st n u) : kAG ω n = kAG σ n := by
  funext t
  unfold kAG
  refine propext (and_congr_right (fun ht => ?_))
  rw [(e.1 t (Or.inl ht)).1, e.2.1]
theorem kTb_ot (h : kTb σ K st n u) (e : otE σ ω K st n u) : kTb ω K st n u := by
  have eK : ω K = σ K := e.2.2.1 K (by omega) (by omega)
  obtain ⟨h1, h2, h3, h4, h5, h6⟩ := id h
  refine ⟨h1, by rw [eK]; exact h2, by rw [eK]; exact h3, ⟨fun t ht => ⟨(h4.1 t ht).1, ?_⟩, fun t ht => ?_, fun t v ht hv q1 q2 q3 q4 => ?_⟩, fun g g1 g2 => ?_, ?_⟩
  · rw [ot_AG e]
    exact tOk_mono (fun _ _ q => q) (fun _ _ q => q) (e.1 t ht).1 (e.1 t ht).2.1 (e.1 t ht).2.2.1 (h4.1 t ht).2
  · rw [(e.1 t ht).2.2.2.1, h4.2.1 t ht]
    unfold tsz
    rw [ot_A h e (fun _ _ => rfl) ht]
  · obtain ⟨a1, a2, a3, -⟩ := e.1 t ht
    obtain ⟨b1, b2, b3, -⟩ := e.1 v hv
    rw [a1] at q1 q2
    rw [b1] at q2
    rw [a2, b2] at q3
    rw [a3, b3] at q4
    exact h4.2.2 t v ht hv q1 q2 q3 q4
  · have hg : kV n st u g := Or.inr ⟨g1, g2⟩
    obtain ⟨a1, a2, a3⟩ := h5 g g1 g2
    refine ⟨by rw [(e.1 g hg).1]; exact a1, by rw [ot_gd h e hg]; exact a2, ?_⟩
    have : tdp (ω 2) (ω 3) (ω 4) g = tdp (σ 2) (σ 3) (σ 4) g := ot_A h e (fun _ _ => rfl) hg
    rw [this]
    exact a3
  · rw [e.2.2.1 (K + 1) (by omega) (by omega)]
    have g1 := hcP_congr (V' := fun g => st ≤ g ∧ g < st + u) (pl' := cpt ω) (fun _ => Iff.rfl) (fun g hg => by
      obtain ⟨a1, a2, a3, -⟩ := e.1 g (Or.inr hg)
      unfold cpt
      rw [a1, a2, a3]) h6
    exact ⟨g1.1, fun t ht => by rw [(e.1 t (Or.inr ht)).2.2.2.2]; exact g1.2 t ht⟩
theorem ot_In (h : kTb σ K st n u) (hl : ∀ t, rwI l t → kV n st u t) (e : otE σ ω K st n u) : kIn ω l = kIn σ l := by
  funext g
  unfold kIn
  refine propext (exists_congr (fun t => and_congr_right (fun ht => ?_)))
  rw [ot_kTv h e (hl t ht)]
theorem kRw_ot (h : kTb σ K st n u) (hR : kRw σ K st n u m l) (e : otE σ ω K st n u) : kRw ω K st n u m l := by
  have hl : ∀ t, rwI l t → kV n st u t := fun t ht => (hR.2.2.1 t ht).1
  have hk : ∀ g, kV n st u g → kMk ω l g = kMk σ l g := fun g hg => by
    unfold kMk
    rw [ot_In h hl e, e.2.2.2.1, e.2.2.2.2, ot_kTv h e hg]
  have ec : ∀ j, j < 9 → ω (K + j) = σ (K + j) := fun j hj => e.2.2.1 _ (by omega) (by omega)
  obtain ⟨r1, r2, r3, r4, r5, r6, r7, r8⟩ := hR
  refine ⟨by rw [e.2.2.1 K (by omega) (by omega)]; exact r1, ?_, fun t ht => ⟨(r3 t ht).1, by rw [ot_gd h e (r3 t ht).1]; exact (r3 t ht).2⟩, r4, ?_, fun a ha => ?_, ?_, fun g hg hgd => ?_⟩
  · rw [ec 2 (by omega), ec 3 (by omega), ec 4 (by omega)]
    exact r2
  · rw [ec 5 (by omega)]
    exact r5
  · rw [ec 7 (by omega), r6 a ha]
    refine exists_congr (fun t => and_congr_right (fun ht => ?_))
    rw [(e.1 t (hl t ht)).1, (e.1 t (hl t ht)).2.1]
  · rw [ec 6 (by omega)]
    exact r7
  · rw [ot_gd h e hg] at hgd
    rw [ec 6 (by omega), e.2.2.1 K (by omega) (by omega), hk g hg]
    exact r8 g hg hgd
theorem kTr_ot (h : kTb σ K st n u) (hl : ∀ t, rwI l t → kV n st u t) (e : otE σ ω K st n u) : kTr ω l = kTr σ l := by
  unfold kTr
  refine List.map_congr_left (fun q hq => ?_)
  rw [ot_kTv h e (hl q.1 ⟨q, hq, rfl⟩)]
theorem kQf_ot (h : kQf σ K st n u m) (e : otE σ ω K st n u) : kQf ω K st n u m := fun g g1 g2 => by
  rw [e.2.2.1 (K + 5) (by omega) (by omega), e.2.2.1 (K + 6) (by omega) (by omega)]
  exact h g g1 g2
theorem kOk_ot {tr : trT} (h : kOk σ K st n tr) (e : ∀ u, u ≤ 576 → otE σ ω K st n u) : kOk ω K st n tr := by
  obtain ⟨u, m, l, h1, h2, h3, h4, h5, h6, h7, h8⟩ := h
  have e := e u h3.1
  exact ⟨u, m, l, h1, h2, kTb_ot h3 e, kMs_eq e.2.2.1 h4, kRw_ot h3 h5 e, (kTr_ot h3 (fun t ht => (h5.2.2.1 t ht).1) e).trans h6, by rw [e.2.2.1 K (by omega) (by omega)]; exact h7, kQf_ot h8 e⟩
theorem iE_ot (h : iE σ K st n u m l) (e : otE σ ω K st n u) (e1 : ω 1 = σ 1) (eA : ∀ t, t < n → aT1 ω t) : iE ω K st n u m l ∧ kTr ω l = kTr σ l := by
  obtain ⟨h1, h2, h3, h4, h5, h6, h7, h8, h9, h10⟩ := h
  refine ⟨⟨h1, h2, by rw [e1]; exact h3, eA, kTb_ot h5 e, kMs_eq e.2.2.1 h6, h7, kRw_ot h5 h8 e, fun t ht => ?_, kQf_ot h10 e⟩, kTr_ot h5 (fun t ht => (h8.2.2.1 t ht).1) e⟩
  have : kDp ω t = kDp σ t := ot_A h5 e (fun _ _ => rfl) (Or.inl ht)
  rw [this]
  exact h9 t ht
end OT
/-- one intruder fills, another stays -/
theorem nF2_ot {σ ω : kS} {K st K' st' n u : Nat} (hK : isK K st) (hK' : isK K' st') (hne : K ≠ K') (hF : nF2 σ ω K' st') (hn : n ≤ 200) (hu : u ≤ 576) : otE σ ω K st n u := by
  have b := isK_b hK
  have b' := isK_b hK'
  have hd : K + 9 ≤ K' ∨ K' + 9 ≤ K := by
    rcases hK with ⟨k1, k2⟩ | ⟨k1, k2⟩ | ⟨k1, k2⟩ <;> rcases hK' with ⟨k3, k4⟩ | ⟨k3, k4⟩ | ⟨k3, k4⟩ <;> omega
  have hst : st + 576 ≤ st' ∨ st' + 576 ≤ st := by
    rcases hK with ⟨k1, k2⟩ | ⟨k1, k2⟩ | ⟨k1, k2⟩ <;> rcases hK' with ⟨k3, k4⟩ | ⟨k3, k4⟩ | ⟨k3, k4⟩ <;> omega
  have hc : ∀ c, c < K' ∨ K' + 9 ≤ c → 7 ≤ c → ω c = σ c := fun c c1 c2 => hF.1.1 c c1 (by omega) (by omega) (by omega) (by omega) (by omega)
  refine ⟨fun z hz => ?_, hc _ (by omega) (by decide), fun c c1 c2 => hc c (by omega) (by omega), ?_, hc _ (by omega) (by decide)⟩
  · have hz' : z < st' ∨ st' + 576 ≤ z := by unfold kV at hz; omega
    obtain ⟨a1, a2, a3, a4⟩ := hF.1.2 z hz'
    exact ⟨a1, a2, a3, hF.2 z hz', a4⟩
  · funext t
    unfold mA
    rw [hc 233 (by omega) (by decide)]
end
section
/-! alike: the class in THE SEARCH -/
/-- the way to the attack, as the class has it -/
def cAy (τ : kS) (x : sX) : Prop := (x.2.2.2 = 0 ∨ x.2.2.2 = -7 → τ 195 9 = -1) ∧ (x.2.2.2 ≠ 0 → x.2.2.2 ≠ -7 → 0 < x.1.length ∧ ∃ D, D ≤ 24 ∧ (∀ j, j < D → 0 < tpI (τ 198) (x.1.length - 1) j) ∧ tpI (τ 198) (x.1.length - 1) D = 0 ∧ τ 195 9 = nI D ∧ ∀ k, k < D → τ 203 k = τ 199 (tpI (τ 198) (x.1.length - 1) (D - 1 - k)))
/-- the STATES, as the class has them -/
def cSx (τ : kS) (S : Nat) (l : xT) : Prop := ∀ i, i < l.length → stF τ 197 (28 * i) S = (xq l i).1 ∧ τ 198 i = (xq l i).2.1 ∧ τ 199 i = (xq l i).2.2
def cFx (σ τ : kS) (S C : Nat) (x : sX) : Prop := τ 195 6 = nI (7 * S) ∧ τ 195 7 = isB (∃ c, c < C ∧ σ (163 + 3 * c) 0 ≠ 0) ∧ τ 195 10 = nI x.2.1 ∧ x.2.1 ≤ 20001 ∧ τ 195 11 = nI x.2.2.1 ∧ τ 195 12 = x.2.2.2
/-- what the search leaves of the class's other cells -/
def cGx (σ τ : kS) : Prop := sF σ τ ∧ (∀ j, j < 776 → τ 5 j = σ 5 j) ∧ cKw τ 204 776 ∧ cKw τ 213 1352 ∧ cQ τ
def cX (σ τ : kS) (n R S C : Nat) (x : sX) (mm : Nat) : Prop := cGx σ τ ∧ sWi τ (7 * S) x.1.length ∧ cSx τ S x.1 ∧ cFx σ τ S C x ∧ cOL τ (fun so => opL σ so n) ∧ (∃ m2, m2 ≤ mm ∧ kMs τ 204 m2) ∧ (∃ u m3 l, m3 ≤ mm ∧ iE τ 213 1352 n u m3 l) ∧ xOk σ n R S x.1 ∧ cAy τ x
theorem sF_hi {σ τ : kS} (h : sF σ τ) : ∀ c, 232 ≤ c → τ c = σ c := fun c hc => h.1 c (Or.inr hc) (by omega) (by omega) (by omega) (by omega) (by omega)
theorem sF_lo {σ τ : kS} (h : sF σ τ) : ∀ c, 7 ≤ c → c < 195 → τ c = σ c := fun c c1 c2 => h.1 c (Or.inl c2) (by omega) (by omega) (by omega) (by omega) (by omega)
theorem hiS_of {σ τ : kS} (e : ∀ c, 232 ≤ c → τ c = σ c) : τ = hiS σ τ := funext fun c => by
  unfold hiS
  by_cases hc : 232 ≤ c
  · rw [if_pos hc]
    exact e c hc
  · rw [if_neg hc]
theorem aOk_hi {σ τ : kS} {n R S : Nat} {a : Nat → Int32} (e : ∀ c, 232 ≤ c → τ c = σ c) (h : aOk σ n R S a) : aOk τ n R S a := by
  rw [hiS_of e]
  exact h
theorem stI_hi {σ τ : kS} (e : ∀ c, 232 ≤ c → τ c = σ c) (a : Nat → Int32) : ∀ c, 232 ≤ c → stI τ a c = stI σ a c := fun c hc => by
  by_cases e1 : c = 265
  · subst e1
    rfl
  · by_cases e2 : c = 264
    · subst e2
      rfl
    · unfold stI
      rw [up_ne e1, up_ne e2, up_ne e1, up_ne e2]
      exact e c hc
theorem stI_lo (σ : kS) (a : Nat → Int32) {c : Nat} (h1 : c ≠ 264) (h2 : c ≠ 265) : stI σ a c = σ c := by
  unfold stI
  rw [up_ne h2, up_ne h1]
theorem trSt_hi {σ τ : kS} (e : ∀ c, 232 ≤ c → τ c = σ c) (kl : List Nat) (S : Nat) : trSt τ kl S = trSt σ kl S := trSt_eq (e _ (by decide)) (e _ (by decide)) (e _ (by decide)) (e _ (by decide)) (e _ (by decide)) (e _ (by decide)) (e _ (by decide)) (e _ (by decide)) (e _ (by decide)) (e _ (by decide))
theorem cCn_sF {σ τ : kS} {n : Nat} (hn : n ≤ 200) (h : sF σ τ) (hC : cCn σ n) : cCn τ n := by
  have ek : ∀ t, t < n → τ 2 t = σ 2 t ∧ τ 3 t = σ 3 t ∧ τ 4 t = σ 4 t ∧ τ 6 t = σ 6 t := fun t ht => h.2 t (by omega)
  unfold cCn at hC ⊢
  have g := hcP_congr (V' := fun t => t < n ∧ 3 < fN (τ 2 t)) (pl' := cpt τ) (fun t => and_congr_right (fun ht => by rw [(ek t ht).1])) (fun t ht => by
    unfold cpt
    rw [(ek t ht.1).1, (ek t ht.1).2.1, (ek t ht.1).2.2.1]) hC
  refine ⟨fun s hs => ?_, fun t ht => ?_⟩
  · rw [sF_lo h 7 (by decide) (by decide)]
    exact g.1 s hs
  · rw [(ek t ht.1).2.2.2]
    exact g.2 t ht
theorem aT1_sF {σ τ : kS} {n : Nat} (hn : n ≤ 200) (h : sF σ τ) (hz : ∀ j, j < 776 → τ 5 j = σ 5 j) (hA : ∀ t, t < n → aT1 σ t) : ∀ t, t < n → aT1 τ t := fun t ht => by
  obtain ⟨a1, a2, a3, -⟩ := h.2 t (by omega)
  have := hA t ht
  have hi := sF_hi h
  have lo := sF_lo h
  unfold aT1 at this ⊢
  rw [a1, a2, a3, hz t (by omega), lo 8 (by decide) (by decide), lo 9 (by decide) (by decide), lo 10 (by decide) (by decide), lo 11 (by decide) (by decide), lo 12 (by decide) (by decide), hi 233 (by decide), hi 234 (by decide), hi 235 (by decide), hi 236 (by decide), hi 237 (by decide), hi 238 (by decide), hi 239 (by decide), hi 240 (by decide), hi 241 (by decide)]
  exact this
/-- all that a STATE of the search needs to be looked at -/
def vB (υ : kS) (n b R S C : Nat) (kl : List Nat) : Prop := (mTb υ n b ∧ mRo υ n R ∧ mSe υ n R S ∧ mKn υ n kl ∧ mCl υ R C ∧ mSv υ n R S) ∧ (aT υ n ∧ aR υ R ∧ aS υ S ∧ aC υ C ∧ aK υ kl) ∧ ∀ s, s < S → (mHo υ s ↔ hoF υ s)
theorem vB_of {σ τ : kS} {n b R S C m : Nat} {kl : List Nat} {a : Nat → Int32} (h : aJ σ n b R S C kl m) (hG : cGx σ τ) (ha : aOk σ n R S a) : vB (stI τ a) n b R S C kl := by
  obtain ⟨hF, hz, -⟩ := hG
  have hi := sF_hi hF
  have lo := sF_lo hF
  obtain ⟨t1, t2, t3, t4, t5, -⟩ := mI_hi hi h.1
  obtain ⟨i1, i2, i3, -, i5, -⟩ := h.1
  obtain ⟨-, -, aT', aR', aS', aC', aK', -⟩ := h
  have ha2 := aOk_hi hi ha
  have hn := t1.1
  have hh : ∀ l : List Nat, l.all (fun c => decide (232 < c ∧ c ≠ 264 ∧ c ≠ 265)) = true → eqC σ (stI τ a) l := eqC_of (fun c q => (stI_lo τ a q.2.1 q.2.2).trans (hi c (by omega)))
  have hl : ∀ c, 7 ≤ c → c < 195 → stI τ a c = σ c := fun c c1 c2 => (stI_lo τ a (by omega) (by omega)).trans (lo c c1 c2)
  refine ⟨⟨t1, t2, t3, t4, t5, aOk_Sv t1 t2 t3 ha2⟩, ⟨⟨?_, ?_⟩, ?_, ?_, ?_, ?_⟩, aOk_ho t1 t2 ha2⟩
  · intro t ht
    have := aT1_sF hn hF hz aT'.1 t ht
    exact this
  · have := cCn_sF hn hF aT'.2
    exact this
  · exact aR_c i1 i2 (fun c c1 c2 => hl c (by omega) (by omega)) (hh _ (by decide)) aR'
  · exact aS_c i1.1 i2 i3 (hl _ (by decide) (by decide)) (hl _ (by decide) (by decide)) (hl _ (by decide) (by decide)) (hh _ (by decide)) aS'
  · exact aC_c i5 (fun c c1 c2 => hl c (by omega) (by omega)) (hh _ (by decide)) aC'
  · exact aK_eq (by rw [hl 13 (by decide) (by decide)]) (hl _ (by decide) (by decide)) aK'
theorem gR_sF {σ τ : kS} {n b : Nat} (hM : mTb σ n b) (hA : ∀ t, t < n → aT1 σ t) (h : sF σ τ) (hz : ∀ j, j < 776 → τ 5 j = σ 5 j) : gR τ n := aT_gR (b := b) (σ := τ) (by
  rw [hiS_of (sF_hi h)]
  exact hM) (aT1_sF hM.1 h hz hA)
/-- only the draft and the ways have changed -/
theorem cX_q {σ τ ω : kS} {n R S C mm : Nat} {x : sX} (h : cX σ τ n R S C x mm) (e : ∀ c, c ≠ 202 → c ≠ 222 → c ≠ 229 → c ≠ 230 → c ≠ 231 → ω c = τ c) (hq : cQ ω) : cX σ ω n R S C x mm := by
  obtain ⟨⟨h1, h2, h3, h4, h5⟩, g2, g3, g4, g5, ⟨m2, g6, g6'⟩, ⟨u, m3, l, g7, g8⟩, g9, g10⟩ := h
  have e' : ∀ c, c < 202 ∨ (202 < c ∧ c < 222) ∨ (222 < c ∧ c < 229) ∨ 231 < c → ω c = τ c := fun c hc => e c (by omega) (by omega) (by omega) (by omega) (by omega)
  have hgt : ∀ g, 200 ≤ g → ω 2 g = τ 2 g ∧ ω 3 g = τ 3 g ∧ ω 4 g = τ 4 g ∧ ω 6 g = τ 6 g := fun g _ => by
    rw [e' 2 (by decide), e' 3 (by decide), e' 4 (by decide), e' 6 (by decide)]
    exact ⟨rfl, rfl, rfl, rfl⟩
  refine ⟨⟨sF_trans h1 (sF_of (fun c hc => e' c (by omega))), fun j hj => by rw [e' 5 (by decide)]; exact h2 j hj, cKw_eq (by decide) (e' _ (by decide)) (e' _ (by decide)) (e' _ (by decide)) hgt h3, cKw_eq (by decide) (e' _ (by decide)) (e' _ (by decide)) (e' _ (by decide)) hgt h4, hq⟩, ?_, ?_, ?_, fun so hso => ?_, ⟨m2, g6, kMs_eq (fun c c1 c2 => e' c (by omega)) g6'⟩, ⟨u, m3, l, g7, ?_⟩, g9, ?_⟩
  · unfold sWi at g2 ⊢
    rw [e' 196 (by decide), e' 197 (by decide), e' 201 (by decide), e' 200 (by decide)]
    exact g2
  · unfold cSx stF at g3 ⊢
    rw [e' 197 (by decide), e' 198 (by decide), e' 199 (by decide)]
    exact g3
  · unfold cFx at g4 ⊢
    rw [e' 195 (by decide)]
    exact g4
  · rw [e' 228 (by decide), e' (224 + so) (by omega)]
    exact g5 so hso
  · refine (iE_ot g8 ⟨fun z _ => ?_, e' _ (by decide), fun c c1 c2 => e' c (by omega), ?_, e' _ (by decide)⟩ (e' _ (by decide)) (fun t ht => ?_)).1
    · rw [e' 2 (by decide), e' 3 (by decide), e' 4 (by decide), e' 5 (by decide), e' 6 (by decide)]
      exact ⟨rfl, rfl, rfl, rfl, rfl⟩
    · unfold mA
      rw [e' 233 (by decide)]
    · have := g8.2.2.2.1 t ht
      unfold aT1 at this ⊢
      rw [e' 2 (by decide), e' 3 (by decide), e' 4 (by decide), e' 5 (by decide), e' 8 (by decide), e' 9 (by decide), e' 10 (by decide), e' 11 (by decide), e' 12 (by decide), e' 233 (by decide), e' 234 (by decide), e' 235 (by decide), e' 236 (by decide), e' 237 (by decide), e' 238 (by decide), e' 239 (by decide), e' 240 (by decide), e' 241 (by decide)]
      exact this
  · unfold cAy at g10 ⊢
    rw [e' 195 (by decide), e' 198 (by decide), e' 199 (by decide), e' 203 (by decide)]
    exact g10
theorem cX_up {σ τ : kS} {n R S C mm mm' : Nat} {x : sX} (h : cX σ τ n R S C x mm) (hm : mm ≤ mm') : cX σ τ n R S C x mm' := by
  obtain ⟨g1, g2, g3, g4, g5, ⟨m2, g6, g6'⟩, ⟨u, m3, l, g7, g8⟩, g9, g10⟩ := h
  exact ⟨g1, g2, g3, g4, g5, ⟨m2, by omega, g6'⟩, ⟨u, m3, l, by omega, g8⟩, g9, g10⟩
/-- an intruder was filled -/
theorem cX_K {σ τ ω : kS} {n R S C mm K st u m : Nat} {x : sX} {l : rwT} (h : cX σ τ n R S C x mm) (hT : cT σ n) (hK : (K = 204 ∧ st = 776) ∨ (K = 213 ∧ st = 1352)) (hm : m ≤ mm + 1) (hg : gK τ ω K st n u m l) : cX σ ω n R S C x (mm + 1) := by
  have hK' : isK K st := Or.inr hK
  obtain ⟨⟨h1, h2, h3, h4, h5⟩, g2, g3, g4, g5, ⟨m2, g6, g6'⟩, ⟨u3, m3, l3, g7, g8⟩, g9, g10⟩ := h
  obtain ⟨hF, hE, hC, hG⟩ := hg
  have hn := hE.2.1
  have hTo : cT ω n := cT_nF hK' hF.1 (cT_sF h1 hT)
  have hw := nW_w (iE_nW hE hTo hG)
  have hc : ∀ c, 7 ≤ c → c < 204 ∨ 222 ≤ c → ω c = τ c := fun c a b => hF.1.1 c (by omega) (by omega) (by omega) (by omega) (by omega) (by omega)
  have hs : sF τ ω := ⟨fun c a1 a2 a3 a4 a5 a6 => hF.1.1 c (by omega) a2 a3 a4 a5 a6, fun j hj => hF.1.2 j (by omega)⟩
  refine ⟨⟨sF_trans h1 hs, fun j hj => (hF.2 j (by omega)).trans (h2 j hj), ?_, ?_, cQ_eq (hc _ (by decide) (by decide)) (hc _ (by decide) (by decide)) h5⟩, ?_, ?_, ?_, fun so hso => ?_, ?_, ?_, g9, ?_⟩
  · rcases hK with ⟨rfl, rfl⟩ | ⟨rfl, rfl⟩
    · exact hw
    · exact cKw_eq2 (hF.1.1 _ (by decide) (by decide) (by decide) (by decide) (by decide) (by decide)) (hF.1.1 _ (by decide) (by decide) (by decide) (by decide) (by decide) (by decide)) (hF.1.1 _ (by decide) (by decide) (by decide) (by decide) (by decide) (by decide)) (fun g g1 g2 => hF.1.2 g (by omega)) h3
  · rcases hK with ⟨rfl, rfl⟩ | ⟨rfl, rfl⟩
    · exact cKw_eq2 (hF.1.1 _ (by decide) (by decide) (by decide) (by decide) (by decide) (by decide)) (hF.1.1 _ (by decide) (by decide) (by decide) (by decide) (by decide) (by decide)) (hF.1.1 _ (by decide) (by decide) (by decide) (by decide) (by decide) (by decide)) (fun g g1 g2 => hF.1.2 g (by omega)) h4
    · exact hw
  · unfold sWi at g2 ⊢
    rw [hc 196 (by decide) (by decide), hc 197 (by decide) (by decide), hc 201 (by decide) (by decide), hc 200 (by decide) (by decide)]
    exact g2
  · unfold cSx stF at g3 ⊢
    rw [hc 197 (by decide) (by decide), hc 198 (by decide) (by decide), hc 199 (by decide) (by decide)]
    exact g3
  · unfold cFx at g4 ⊢
    rw [hc 195 (by decide) (by decide)]
    exact g4
  · rw [hc 228 (by decide) (by decide), hc (224 + so) (by omega) (by omega)]
    exact g5 so hso
  · rcases hK with ⟨rfl, rfl⟩ | ⟨rfl, rfl⟩
    · exact ⟨m, hm, hE.2.2.2.2.2.1⟩
    · exact ⟨m2, by omega, kMs_eq (fun c c1 c2 => hF.1.1 c (by omega) (by omega) (by omega) (by omega) (by omega) (by omega)) g6'⟩
  · rcases hK with ⟨rfl, rfl⟩ | ⟨rfl, rfl⟩
    · exact ⟨u3, m3, l3, by omega, (iE_ot g8 (nF2_ot (Or.inr (Or.inr ⟨rfl, rfl⟩)) hK' (by decide) hF hn g8.2.2.2.2.1.1) (hF.1.1 1 (by decide) (by decide) (by decide) (by decide) (by decide) (by decide)) hE.2.2.2.1).1⟩
    · exact ⟨u, m, l, hm, hE⟩
  · unfold cAy at g10 ⊢
    rw [hc 195 (by decide) (by decide), hc 198 (by decide) (by decide), hc 199 (by decide) (by decide), hc 203 (by decide) (by decide)]
    exact g10
end
section
/-! alike: reach, as the search's function -/
theorem cBk_st {τ : kS} {n R S C c : Nat} {a : Nat → Int32} {l : rwT} (hB : cB τ n R S C) (hc : c < C) : cBk (stI τ a) 202 0 c n S l ↔ cBk τ 202 0 c n S l := by
  have hC6 := hB.2.2.1
  have hR4 := hB.1.1
  have e : ∀ c, c < 232 → stI τ a c = τ c := fun c hc => stI_lo τ a (by omega) (by omega)
  have e1 := stI_lo τ a (c := 233) (by decide) (by decide)
  have e2 := stI_lo τ a (c := 238) (by decide) (by decide)
  unfold cBk
  rw [e (163 + 3 * c) (by omega)]
  refine or_congr (and_congr_right (fun _ => exists_congr (fun s => and_congr_right (fun hs => ?_)))) (and_congr_right (fun _ => not_congr (cPn_congr (fun s hs => ?_) (fun s p hs hp _ => ?_))))
  · unfold cLs kMk kIn kTv mA
    rw [e (163 + 3 * c) (by omega), e 15 (by decide), e 16 (by decide), e 202 (by decide), e 2 (by decide), e 3 (by decide), e 4 (by decide), e1, e2]
  · obtain ⟨r, r1, r2⟩ := hB.2.1.2.2 s hs
    unfold cWn cHd
    rw [e (163 + 3 * c) (by omega), e 15 (by decide), e 16 (by decide), e 202 (by decide), r2, fN_nI (by omega), e (23 + 35 * r) (by omega)]
  · unfold cFt
    rw [e (163 + 3 * c) (by omega), e (164 + 3 * c) (by omega), e (165 + 3 * c) (by omega), e 15 (by decide), e 202 (by decide)]
theorem fsB_n7 {P : Nat → Prop} : ∀ m i, i + m ≤ 1000 → fsB P m i ≠ -7
  | 0, _, _ => by
    show (0 : Int32) ≠ -7
    decide
  | m + 1, i, h => by
    have e : fsB P (m + 1) i = cit (P i) (nI (1 + i)) (fsB P m (i + 1)) := rfl
    rw [e]
    by_cases q : P i
    · rw [cit_T q]
      exact fun z => absurd (show nI (1 + i) < 0 by rw [z]; decide) (nI_pos (by omega))
    · rw [cit_F q]
      exact fsB_n7 m (i + 1) (by omega)
theorem iE_st {τ : kS} {K st n u m : Nat} {l : rwT} {a : Nat → Int32} (hK : (K = 204 ∧ st = 776) ∨ (K = 213 ∧ st = 1352)) (h : iE τ K st n u m l) : iE (stI τ a) K st n u m l := by
  rcases hK with ⟨rfl, rfl⟩ | ⟨rfl, rfl⟩
  · exact h
  · exact h
theorem iE_195 {τ ω : kS} {K st n u m : Nat} {l : rwT} (e : ∀ c, c ≠ 195 → ω c = τ c) (h : iE τ K st n u m l) : iE ω K st n u m l := by
  have b := isK_b h.1
  have hK : K < 195 ∨ 195 < K := by
    rcases h.1 with ⟨k1, -⟩ | ⟨k1, -⟩ | ⟨k1, -⟩ <;> omega
  refine (iE_ot h ⟨fun z _ => ?_, e _ (by decide), fun c c1 c2 => e c ?_, ?_, e _ (by decide)⟩ (e _ (by decide)) (fun t ht => ?_)).1
  · rw [e 2 (by decide), e 3 (by decide), e 4 (by decide), e 5 (by decide), e 6 (by decide)]
    exact ⟨rfl, rfl, rfl, rfl, rfl⟩
  · rcases h.1 with ⟨k1, -⟩ | ⟨k1, -⟩ | ⟨k1, -⟩ <;> omega
  · unfold mA
    rw [e 233 (by decide)]
  · have := h.2.2.2.1 t ht
    unfold aT1 at this ⊢
    rw [e 2 (by decide), e 3 (by decide), e 4 (by decide), e 5 (by decide), e 8 (by decide), e 9 (by decide), e 10 (by decide), e 11 (by decide), e 12 (by decide), e 233 (by decide), e 234 (by decide), e 235 (by decide), e 236 (by decide), e 237 (by decide), e 238 (by decide), e 239 (by decide), e 240 (by decide), e 241 (by decide)]
    exact this
/-- the draft's values -/
theorem cX_V {σ τ : kS} {n b R S C m : Nat} {kl : List Nat} {a : Nat → Int32} (h : aJ σ n b R S C kl m) (hG : cGx σ τ) (hok : aOk σ n R S a) (ha : stF τ 202 0 S = a) : ∀ s k, s < S → k < 6 → τ 202 (0 + 7 * s + 1 + k) = -1 ∨ ∃ z, z < n ∧ τ 202 (0 + 7 * s + 1 + k) = nI z ∧ kGd τ z := fun s k hs hk => by
  have hn := h.1.1.1
  have e : τ 202 (0 + 7 * s + 1 + k) = a (7 * s + 1 + k) := by
    rw [← ha]
    unfold stF
    rw [if_pos (by omega), show 0 + (7 * s + 1 + k) = 0 + 7 * s + 1 + k by omega]
  rw [e]
  rcases hok.2.2 s k hs hk with q | ⟨z, z1, z2⟩
  · exact Or.inl q
  · refine Or.inr ⟨z, z1, z2, ?_⟩
    have hg := aOk_gd h.1.1 hok hs hk z1 z2
    rw [← aT_gd h.1.1 h.2.2.1.1 z1] at hg
    have e2 : tgd (τ 2) (τ 3) (τ 4) z = tgd (σ 2) (σ 3) (σ 4) z := by
      unfold tgd
      refine tA_congr (V := fun t => t < n) (AG := mAG σ n) (fun t ht => ?_) (fun t ht => ?_) z z1
      · obtain ⟨a1, a2, a3, -⟩ := h.2.2.1.1 t ht
        exact ⟨by omega, tOk_mono (fun _ _ q => q) (fun _ _ q => q) a1 a2 a3 (mTb_num h.1.1 t ht).2⟩
      · obtain ⟨a1, a2, a3, -⟩ := hG.1.2 t (by omega)
        exact ⟨a1, a2, a3, by rw [a1]⟩
    unfold kGd
    rw [e2]
    exact hg
set_option maxRecDepth 100000 in
set_option maxHeartbeats 4000000 in
theorem mX_reach (L : Nat) (xs : Nat → Int32) (d : Nat) (σ τ : kS) (n b R S C m0 mm K st u m : Nat) (kl : List Nat) (x : sX) (a : Nat → Int32) (l : rwT) (f y : Int32) (h : aJ σ n b R S C kl m0) (hX : cX σ τ n R S C x mm) (hK : (K = 204 ∧ st = 776) ∨ (K = 213 ∧ st = 1352)) (hE : iE τ K st n u m l) (hm : m ≤ mm) (ha : stF τ 202 0 S = a) (hok : aOk σ n R S a) (hno : ¬ ∃ q ∈ x.1, q.1 = a) (han : x.2.2.2 = 0) (hp : (x.1.length = 0 ∧ ∀ s, s < S → a (7 * s) = 0) ∨ ∃ j mv, j < x.1.length ∧ f = nI j ∧ y = nI mv ∧ stp S (aD (xq x.1 j).1) (aV (xq x.1 j).1) (aD a) (aV a) mv) (hrow : (∃ c, c < C ∧ σ (163 + 3 * c) 0 ≠ 0) → kTr τ l = trSt (stI σ a) kl S) :
    kXM kT L xs (d + 55) 84 [.ref 195, .int f, .int y, .ref K] τ (fun r ω => r = none ∧ cX σ ω n R S C (sRe σ kl S C x a f y) mm ∧ iE ω K st n u m l ∧ reF τ ω K) := by
  have hX0 := hX
  obtain ⟨hG, g2, g3, g4, g5, ⟨m2, g6, g6'⟩, ⟨u3, m3, l3, g7, g8⟩, g9, g10⟩ := hX
  obtain ⟨w1, w2, w3, w4, w5, w6⟩ := g4
  have hn := h.1.1.1
  have hS4 := h.1.2.2.1.1
  have hR4 := h.1.2.1.1
  have hJ := h.2.1
  have hB : cB τ n R S C := cB_eq (fun c c1 c2 => sF_13 hG.1 c c1 (by omega)) (cB_of hJ)
  have hC6 := hB.2.2.1
  have hN6 := g2.1
  have hV := cX_V h hG hok ha
  have hkv := vB_of h hG hok
  obtain ⟨⟨v1, v2, v3, v4, v5, v6⟩, ⟨y1, y2, y3, y4, y5⟩, vh⟩ := hkv
  have hsv : staV (stI τ a) 202 0 S := by
    have := stF_staV τ 202 0 S (by decide)
    rw [ha] at this
    exact this
  have hi := sF_hi hG.1
  have hsh := stI_hi hi a
  have hE2 := iE_st (a := a) hK hE
  have hbk : ∀ c, c < C → (cBk τ 202 0 c n S l ↔ mBt (stI σ a) (trSt (stI σ a) kl S) c S) := fun c hc => by
    have e1 := cBk_tr (c := c) (A := 202) (base := 0) v1 v2 v3 v5 hc v6 y2 y3 y4 y1.1 hsv (fun s k hs hk => hV s k hs hk) vh hE2
    have e2 : kTr (stI τ a) l = kTr τ l := rfl
    rw [← cBk_st (a := a) hB hc, e1, e2, mBt_hi hsh]
    by_cases hs : σ 257 c = 0
    · unfold mBt
      refine or_congr ⟨fun z => absurd hs z.1, fun z => absurd hs z.1⟩ Iff.rfl
    · rw [hrow ⟨c, hc, (h.2.2.2.2.2.1 c hc).1.mpr hs⟩]
  have hall : (∀ s, s < S → cHd τ 202 0 s) ↔ (∀ s, s < S → adN (stI σ a) s) := by
    refine forall_congr' (fun s => forall_congr' (fun hs => ?_))
    obtain ⟨r, r1, r2, r3, r4, -⟩ := v6.2 s hs
    obtain ⟨-, ev, ev6, ev2⟩ := v2.2.2.1 r r1
    have k1 : τ 15 s = nI r := (y3 s hs).1.trans r2
    have k2 : τ (23 + 35 * r) 5 = nI ev := by
      have := (y2 r r1).2.1
      rw [stI_lo τ a (by omega) (by omega)] at this
      exact this.trans ev2
    have k3 : τ 202 (0 + 7 * s) = stI τ a 264 s := by
      have := (hsv s hs).1
      exact this
    rw [ev2, fN_nI (by omega)] at r4
    have k4 : adN (stI σ a) s ↔ stI τ a 264 s = nI ev := by
      unfold adN
      rw [← hsh 255 (by decide), ← hsh 247 (by decide), ← hsh 264 (by decide), r2, fN_nI (by omega), ev2]
    rw [k4]
    unfold cHd
    rw [k1, fN_nI (by omega), k2, k3, r3]
    generalize fN (stI τ a 264 s) = dn at *
    rw [Int32.lt_iff_toInt_lt, nI_toInt (by omega), nI_toInt (by omega)]
    refine ⟨fun z => by congr 1; omega, fun z => ?_⟩
    have := nI_inj z
    omega
  have hx0 : ∀ q : Prop, sRe σ kl S C x a f y = cit (600 ≤ x.1.length) (x.1, x.2.1, x.2.2.1, -7) (x.1 ++ [(a, f, y)], x.2.1, x.2.2.1 + cit (∀ s, s < S → adN (stI σ a) s) 1 0, fsB (fun c => mBt (stI σ a) (trSt (stI σ a) kl S) c S) C 0) := fun _ => by
    unfold sRe
    rw [cit_F hno]
  have hx0 := hx0 True
  by_cases hN : x.1.length = 600
  · rw [cit_T (by omega)] at hx0
    unfold kXM
    iterate 3 (refine kX_one rfl ?_)
    refine kX_top (g2.2.1) ?_
    repeat refine kX_one rfl ?_
    refine kX_if (fun q => ?_) (fun q => ?_)
    · have q := qlt q x.1.length 600
      omega
    · iterate 3 (refine kX_one rfl ?_)
      refine kX_ret (i := .return_) (len := 1) rfl (Or.inr rfl) rfl ⟨rfl, ?_, ?_, fun c hc _ => up_ne (by omega)⟩
      · rw [hx0]
        have e' : ∀ c, c ≠ 195 → va_up τ 195 (upd (τ 195) 12 (-7)) c = τ c := fun c hc => up_ne hc
        have e5 : ∀ j, j ≠ 12 → va_up τ 195 (upd (τ 195) 12 (-7)) 195 j = τ 195 j := fun j hj => by rw [up_eq, pk_un hj]
        have e6 : va_up τ 195 (upd (τ 195) 12 (-7)) 195 12 = -7 := by rw [up_eq, pk_us]
        show cX σ (va_up τ 195 (upd (τ 195) 12 (-7))) n R S C (x.1, x.2.1, x.2.2.1, -7) mm
        generalize va_up τ 195 (upd (τ 195) 12 (-7)) = ω at e' e5 e6
        have hgt : ∀ g, 200 ≤ g → ω 2 g = τ 2 g ∧ ω 3 g = τ 3 g ∧ ω 4 g = τ 4 g ∧ ω 6 g = τ 6 g := fun g _ => by
          rw [e' 2 (by decide), e' 3 (by decide), e' 4 (by decide), e' 6 (by decide)]
          exact ⟨rfl, rfl, rfl, rfl⟩
        obtain ⟨a1, a2, a3, a4, a5⟩ := hG
        refine ⟨⟨sF_trans a1 (sF_of (fun c hc => e' c (by omega))), fun j hj => by rw [e' 5 (by decide)]; exact a2 j hj, cKw_eq (by decide) (e' _ (by decide)) (e' _ (by decide)) (e' _ (by decide)) hgt a3, cKw_eq (by decide) (e' _ (by decide)) (e' _ (by decide)) (e' _ (by decide)) hgt a4, cQ_eq (e' _ (by decide)) (e' _ (by decide)) a5⟩, ?_, ?_, ⟨(e5 _ (by decide)).trans w1, (e5 _ (by decide)).trans w2, (e5 _ (by decide)).trans w3, w4, (e5 _ (by decide)).trans w5, e6⟩, fun so hso => ?_, ⟨m2, g6, kMs_eq (fun c c1 c2 => e' c (by omega)) g6'⟩, ⟨u3, m3, l3, g7, iE_195 (fun c hc => e' c hc) g8⟩, g9, ?_⟩
        · unfold sWi at g2 ⊢
          rw [e' 196 (by decide), e' 197 (by decide), e' 201 (by decide), e' 200 (by decide)]
          exact g2
        · unfold cSx stF at g3 ⊢
          rw [e' 197 (by decide), e' 198 (by decide), e' 199 (by decide)]
          exact g3
        · rw [e' 228 (by decide), e' (224 + so) (by omega)]
          exact g5 so hso
        · refine ⟨fun _ => (e5 _ (by decide)).trans (g10.1 (Or.inl han)), fun _ z => absurd rfl z⟩
      · rcases hK with ⟨rfl, rfl⟩ | ⟨rfl, rfl⟩
        · exact hE
        · exact hE
  · have hlt : x.1.length < 600 := by omega
    rw [cit_F (by omega)] at hx0
    have hxn := xOk_push g9 hlt hok hp
    have hlen : (x.1 ++ [(a, f, y)]).length = x.1.length + 1 := by rw [List.length_append]; rfl
    have hP : ∀ i, i < x.1.length + 1 → upd (τ 198) x.1.length f i = (xq (x.1 ++ [(a, f, y)]) i).2.1 := fun i hi => by
      by_cases e : i = x.1.length
      · subst e
        rw [pk_us, xq_eq]
      · rw [pk_un e, xq_lt (by omega)]
        exact (g3 i (by omega)).2.1
    have hM : ∀ i, i < x.1.length + 1 → upd (τ 199) x.1.length y i = (xq (x.1 ++ [(a, f, y)]) i).2.2 := fun i hi => by
      by_cases e : i = x.1.length
      · subst e
        rw [pk_us, xq_eq]
      · rw [pk_un e, xq_lt (by omega)]
        exact (g3 i (by omega)).2.2
    obtain ⟨D, hD, hDP⟩ := x_path h.1.1 h.1.2.1 hS4 hxn (by omega)
    obtain ⟨hD1, hD2⟩ := hDP (upd (τ 198) x.1.length f) (fun i _ hi => hP i (by omega))
    rw [hlen, Nat.add_sub_cancel] at hD1 hD2
    refine kXM_mono (mf_reach L xs d τ n R S C x.1.length K st u m D x.2.2.1 l f y hB hK hE w1 g2 (w6.trans han) w5 hV (fun i i1 i2 => ?_) hD hD1 hD2) ?_
    · obtain ⟨j, mv, j1, j2, -⟩ := (hxn.2 i (by omega)).2.2 i1
      exact ⟨j, j1, (hP i i2).trans j2⟩
    · rintro r ω ⟨rfl, ⟨q, -⟩ | ⟨-, q2, q3, q4, q5, q6, q7, q8, q9⟩⟩
      · exact absurd q hN
      · refine ⟨rfl, ?_, q3, q2⟩
        rw [fsB_congr C 0 (fun c _ hc => hbk c (by omega))] at q7
        rw [cit_iff hall] at q6
        rw [hx0]
        obtain ⟨p1, p2, p3, p4⟩ := q4
        have hKb : K + 6 = 210 ∨ K + 6 = 219 := by rcases hK with z | z <;> omega
        have e' : ∀ c, c < 195 ∨ 222 ≤ c → ω c = τ c := fun c hc => q2 c (by omega) (by omega)
        have eK : ∀ c, 204 ≤ c → c ≠ K + 6 → ω c = τ c := fun c c1 c2 => q2 c (by omega) c2
        have hgt : ∀ g, 200 ≤ g → ω 2 g = τ 2 g ∧ ω 3 g = τ 3 g ∧ ω 4 g = τ 4 g ∧ ω 6 g = τ 6 g := fun g _ => by
          rw [e' 2 (by decide), e' 3 (by decide), e' 4 (by decide), e' 6 (by decide)]
          exact ⟨rfl, rfl, rfl, rfl⟩
        obtain ⟨a1, a2, a3, a4, a5⟩ := hG
        refine ⟨⟨sF_trans a1 (sF_of (fun c hc => e' c (by omega))), fun j hj => by rw [e' 5 (by decide)]; exact a2 j hj, cKw_eq (by decide) (eK _ (by decide) (by omega)) (eK _ (by decide) (by omega)) (eK _ (by decide) (by omega)) hgt a3, cKw_eq (by decide) (eK _ (by decide) (by omega)) (eK _ (by decide) (by omega)) (eK _ (by decide) (by omega)) hgt a4, cQ_eq (e' _ (by decide)) (e' _ (by decide)) a5⟩, ?_, ?_, ⟨(q5 _ (by decide) (by decide) (by decide)).trans w1, (q5 _ (by decide) (by decide) (by decide)).trans w2, (q5 _ (by decide) (by decide) (by decide)).trans w3, w4, q6, q7⟩, fun so hso => ?_, ?_, ?_, hxn, ?_⟩
        · show sWi ω (7 * S) (x.1 ++ [(a, f, y)]).length
          rw [hlen]
          exact p4
        · intro i hi
          have hi : i < x.1.length + 1 := by rw [← hlen]; exact hi
          refine ⟨?_, ?_, ?_⟩
          · by_cases e : i = x.1.length
            · subst e
              show stF ω 197 (28 * x.1.length) S = (xq (x.1 ++ [(a, f, y)]) x.1.length).1
              rw [xq_eq]
              show stF ω 197 (28 * x.1.length) S = a
              rw [← ha]
              funext j
              unfold stF
              by_cases hj : j < 7 * S
              · rw [if_pos hj, if_pos hj, p1, va_cpy, if_pos ⟨by omega, by omega⟩]
                congr 1
                omega
              · rw [if_neg hj, if_neg hj]
            · show stF ω 197 (28 * i) S = (xq (x.1 ++ [(a, f, y)]) i).1
              rw [xq_lt (by omega), ← (g3 i (by omega)).1]
              funext j
              unfold stF
              by_cases hj : j < 7 * S
              · rw [if_pos hj, if_pos hj, p1, va_cpy, if_neg (by omega)]
              · rw [if_neg hj, if_neg hj]
          · rw [p2]
            exact hP i hi
          · rw [p3]
            exact hM i hi
        · rw [e' 228 (by decide), e' (224 + so) (by omega)]
          exact g5 so hso
        · rcases hK with ⟨rfl, rfl⟩ | ⟨rfl, rfl⟩
          · exact ⟨m, hm, q3.2.2.2.2.2.1⟩
          · exact ⟨m2, g6, kMs_eq (fun c c1 c2 => eK c (by omega) (by omega)) g6'⟩
        · rcases hK with ⟨rfl, rfl⟩ | ⟨rfl, rfl⟩
          · refine ⟨u3, m3, l3, g7, (iE_ot g8 ⟨fun z _ => ?_, e' _ (by decide), fun c c1 c2 => eK c (by omega) (by omega), ?_, e' _ (by decide)⟩ (e' _ (by decide)) q3.2.2.2.1).1⟩
            · rw [e' 2 (by decide), e' 3 (by decide), e' 4 (by decide), e' 5 (by decide), e' 6 (by decide)]
              exact ⟨rfl, rfl, rfl, rfl, rfl⟩
            · unfold mA
              rw [e' 233 (by decide)]
          · exact ⟨u, m, l, hm, q3⟩
        · have hfn := fsB_n7 (P := fun c => mBt (stI σ a) (trSt (stI σ a) kl S) c S) C 0 (by omega)
          refine ⟨fun z => ?_, fun z _ => ?_⟩
          · rcases z with z | z
            · rw [q8 (q7.trans z)]
              exact g10.1 (Or.inl han)
            · exact absurd z hfn
          · show 0 < (x.1 ++ [(a, f, y)]).length ∧ _
            obtain ⟨q91, q92⟩ := q9 (fun e => z (q7.symm.trans e))
            show 0 < (x.1 ++ [(a, f, y)]).length ∧ ∃ D, D ≤ 24 ∧ (∀ j, j < D → 0 < tpI (ω 198) ((x.1 ++ [(a, f, y)]).length - 1) j) ∧ tpI (ω 198) ((x.1 ++ [(a, f, y)]).length - 1) D = 0 ∧ ω 195 9 = nI D ∧ ∀ k, k < D → ω 203 k = ω 199 (tpI (ω 198) ((x.1 ++ [(a, f, y)]).length - 1) (D - 1 - k))
            rw [hlen, Nat.add_sub_cancel, p2, p3]
            exact ⟨by omega, D, hD, hD1, hD2, q91, q92⟩
end
section
/-! alike: a way to receive, as both sides see it -/
noncomputable def owS (σ : kS) (r e : Nat) : List Nat := (bls σ r e).map (fun u => fN (σ 240 u))
section WT
variable {σ τ : kS} {n b R S C m : Nat} {kl : List Nat}
theorem tb_at (h : aJ σ n b R S C kl m) (hG : cGx σ τ) : mTb τ n b ∧ (∀ t, t < n → aT1 τ t) ∧ cCn τ n ∧ gR τ n := by
  have hn := h.1.1.1
  exact ⟨(mI_hi (sF_hi hG.1) h.1).1, aT1_sF hn hG.1 hG.2.1 h.2.2.1.1, cCn_sF hn hG.1 h.2.2.1.2, gR_sF h.1.1 h.2.2.1.1 hG.1 hG.2.1⟩
theorem kVs_at (h : aJ σ n b R S C kl m) (hG : cGx σ τ) {x : Nat} (hx : x < n) : kVs τ x = tvs (σ 233) (σ 234) (σ 235) x := by
  obtain ⟨t1, t2, -⟩ := tb_at h hG
  have hi := sF_hi hG.1
  rw [aT_vs t1 t2 hx, hi 233 (by decide), hi 234 (by decide), hi 235 (by decide)]
theorem kGd_at (h : aJ σ n b R S C kl m) (hG : cGx σ τ) {x : Nat} (hx : x < n) : tgd (τ 2) (τ 3) (τ 4) x = tgd (σ 233) (σ 234) (σ 235) x := by
  obtain ⟨t1, t2, -⟩ := tb_at h hG
  have hi := sF_hi hG.1
  rw [aT_gd t1 t2 hx, hi 233 (by decide), hi 234 (by decide), hi 235 (by decide)]
theorem kOk_at (h : aJ σ n b R S C kl m) (hG : cGx σ τ) : ∀ t, t < n → t < 100000 ∧ tOk (fun t => t < n) (mAG τ n) (τ 2) (τ 3) (τ 4) t := fun t ht => by
  obtain ⟨t1, t2, -⟩ := tb_at h hG
  obtain ⟨a1, a2, a3, -⟩ := t2 t ht
  exact ⟨(mTb_num t1 t ht).1, tOk_mono (fun _ _ q => q) (fun _ _ q => q) a1 a2 a3 (mTb_num t1 t ht).2⟩
/-- an EVENT that receives, as the class has it -/
theorem ev_facts {r dn t : Nat} (h : aJ σ n b R S C kl m) (hG : cGx σ τ) (r1 : r < R) (hdn : dn < fN (σ 247 r)) (hse : σ 249 (6 * r + dn) = 0) (ht : t < n) (het : σ 248 (6 * r + dn) = nI t) :
    evQ τ (28 + 35 * r + 5 * dn) (owP σ r dn) (owS σ r dn) ∧ ∃ pl, plP τ n (28 + 35 * r + 5 * dn) t pl ∧ (∀ x ∈ pl, x < n ∧ ∀ v ∈ kVs τ x, v ∈ tvs (σ 233) (σ 234) (σ 235) t) ∧ ∀ j, j < (bls σ r dn).length → ∃ f, f ≤ pl.length ∧ τ (28 + 35 * r + 5 * dn + 4) (j + 1) = nI f ∧ ∀ i (hi : i < pl.length), i < f → ∀ v ∈ kVs τ (pl[i]'hi), ∀ j' (hj : j' < (bls σ r dn).length), j ≤ j' → v ≠ (bls σ r dn)[j']'hj := by
  have hT := h.1.1
  have hR := h.1.2.1
  have hn := hT.1
  have hR4 := hR.1
  have he6 : fN (σ 247 r) ≤ 6 := by
    obtain ⟨-, e, e1, e2⟩ := hR.2.2.1 r r1
    rw [e2, fN_nI (by omega)]
    exact e1
  have hft : fN (σ 248 (6 * r + dn)) = t := by rw [het]; exact fN_nI (by omega)
  obtain ⟨b1, b2, b3, b4, b5⟩ := bls_ok hT hR r1 hdn het ht
  obtain ⟨e1, -, -, e4⟩ := (h.2.2.2.1 r r1).2.2.2.2 dn hdn
  obtain ⟨c1, c2, c3, pl, p0, p1, p2, p3, p4, p5, p6⟩ := e4 hse
  rw [hft] at p3 p4
  have cc : ∀ j, j ≤ 4 → τ (28 + 35 * r + 5 * dn + j) = σ (28 + 35 * r + 5 * dn + j) := fun j hj => sF_13 hG.1 _ (by omega) (by omega)
  have cc0 : τ (28 + 35 * r + 5 * dn) = σ (28 + 35 * r + 5 * dn) := cc 0 (by omega)
  have hlt : ∀ x ∈ pl, x < n := fun x hx => by
    have := (p4 x hx).1
    omega
  refine ⟨⟨?_, ?_, ?_, fun j hj => ?_, fun j hj => ?_, ow_pw hT hR r1 hdn het ht⟩, pl, ⟨p0, by rw [cc0]; exact p1, by rw [cc 3 (by omega)]; exact p2, by rw [cc0]; exact e1.trans het, p3, hlt, fun i hi ho hk p hp hfs => ?_⟩, fun x hx => ⟨hlt x hx, ?_⟩, fun j hj => ?_⟩
  · unfold owS
    rw [List.length_map, cc0]
    exact c1
  · unfold owP owS
    rw [List.length_map, List.length_map]
  · unfold owS
    rw [List.length_map]
    exact c2
  · have hj' : j < (bls σ r dn).length := by unfold owP at hj; rw [List.length_map] at hj; exact hj
    obtain ⟨-, ⟨k, k1, k2⟩, -⟩ := b3 _ (List.getElem_mem hj')
    have e : (owP σ r dn)[j]'hj = k := by
      simp only [owP, List.getElem_map]
      rw [k2]
      exact fN_nI (by omega)
    rw [e]
    refine ⟨k1, ?_⟩
    rw [cc 1 (by omega), show 28 + 35 * r + 5 * dn + 1 = 29 + 35 * r + 5 * dn by omega]
    exact (c3 j hj').1.trans k2
  · have hj' : j < (bls σ r dn).length := by unfold owS at hj; rw [List.length_map] at hj; exact hj
    obtain ⟨-, -, so, s1, s2⟩ := b3 _ (List.getElem_mem hj')
    have e : (owS σ r dn)[j]'hj = so := by
      simp only [owS, List.getElem_map]
      rw [s2]
      exact fN_nI (by omega)
    rw [e]
    refine ⟨by omega, ?_⟩
    rw [cc 2 (by omega), show 28 + 35 * r + 5 * dn + 2 = 30 + 35 * r + 5 * dn by omega]
    exact (c3 j hj').2.trans s2
  · have hx := hlt _ (List.getElem_mem hi)
    obtain ⟨-, t2, -⟩ := tb_at h hG
    obtain ⟨a1, a2, a3, -⟩ := t2 _ hx
    have hh := sF_hi hG.1
    rw [hh 233 (by decide)] at a1
    rw [hh 234 (by decide)] at a2
    rw [hh 235 (by decide)] at a3
    have ho' : opn σ (pl[i]'hi) := by
      unfold kGd at ho
      rw [kGd_at h hG hx] at ho
      exact ⟨by simpa using ho, fun e => hk (a1.trans e)⟩
    obtain ⟨⟨j1, hj1, l1, f1⟩, q2⟩ := p5 i hi ho'
    have hb : ∀ j (hj : j < pl.length), (pl[j]'hj) < n := fun j hj => hlt _ (List.getElem_mem hj)
    rcases hfs with w | w
    · refine ⟨j1, hj1, l1, ?_⟩
      have := hb j1 hj1
      exact nI_inj (w.symm.trans (a2.trans f1))
    · rcases q2 with q2 | ⟨j2, hj2, l2, f2⟩
      · exact absurd (w.symm.trans (a3.trans q2)) (nI_m1 (by omega))
      · refine ⟨j2, hj2, l2, ?_⟩
        have := hb j2 hj2
        exact nI_inj (w.symm.trans (a3.trans f2))
  · rw [kVs_at h hG (hlt x hx)]
    exact (p4 x hx).2
  · obtain ⟨f, f1, f2, f3⟩ := p6 j hj
    refine ⟨f, f1, by rw [cc 4 (by omega)]; exact f2, fun i hi hif v hv => ?_⟩
    rw [kVs_at h hG (hlt _ (List.getElem_mem hi))] at hv
    exact f3 i hi hif v hv
/-- what stands for VARIABLES is all that matters -/
theorem tW_cg {W W' : Nat → Jvm.Term} {AG : Nat → Prop} (hV : ∀ t, t < n → t < 100000 ∧ tOk (fun t => t < n) AG (τ 2) (τ 3) (τ 4) t) : ∀ t, t < n → (∀ v ∈ kVs τ t, W v = W' v) → tW τ W t = tW τ W' t := by
  intro t
  induction t using Nat.strongRecOn with
  | _ t ih =>
    intro ht hst
    rcases (hV t ht).2 with ⟨k, h3, hk, -, -⟩ | ⟨k, x, y, h3, hk, hx, hy, h4, h5, h6, h7⟩ | ⟨k, x, h3, hk, hx, hy, h4, h6⟩
    · unfold tW
      rw [tA_0 hk h3, tA_0 hk h3]
      by_cases hk3 : τ 2 t = nI 3
      · rw [if_pos hk3, if_pos hk3]
        refine hst t ?_
        unfold kVs tvs
        rw [tA_0 hk h3, if_pos hk3]
        exact List.mem_singleton.mpr rfl
      · rw [if_neg hk3, if_neg hk3]
    · have evs : kVs τ t = kVs τ x ++ kVs τ y := tA_2 hV hk hx hy (by omega) (by omega) h4 h5 h6 h7
      have e4 : tW τ W t = vnd k (tW τ W x) (some (tW τ W y)) := tA_2 hV hk hx hy (by omega) (by omega) h4 h5 h6 h7
      have e5 : tW τ W' t = vnd k (tW τ W' x) (some (tW τ W' y)) := tA_2 hV hk hx hy (by omega) (by omega) h4 h5 h6 h7
      rw [e4, e5, ih x h4 h6 (fun u hu => hst u (by rw [evs]; exact List.mem_append_left _ hu)), ih y h5 h7 (fun u hu => hst u (by rw [evs]; exact List.mem_append_right _ hu))]
    · have evs : kVs τ t = kVs τ x ++ [] := tA_1 hV hk hx hy (by omega) (by omega) h4 h6
      have e4 : tW τ W t = vnd k (tW τ W x) none := tA_1 hV hk hx hy (by omega) (by omega) h4 h6
      have e5 : tW τ W' t = vnd k (tW τ W' x) none := tA_1 hV hk hx hy (by omega) (by omega) h4 h6
      rw [e4, e5, ih x h4 h6 (fun u hu => hst u (by rw [evs]; exact List.mem_append_left _ hu))]
theorem tin_hi {υ υ' : kS} (e : ∀ c, 232 ≤ c → υ' c = υ c) : tin υ' = tin υ := by
  funext s t
  unfold tin mVl
  rw [e 233 (by decide), e 234 (by decide), e 235 (by decide), e 265 (by decide), e 241 (by decide)]
/-- the draft holds a way: what the EVENT's TERM is -/
theorem wy_iT {s t x : Nat} {a : Nat → Int32} (h : aJ σ n b R S C kl m) (hG : cGx σ τ) (hst : stF τ 202 0 S = a) (hs : s < S) (hx : x < n) (hv : ∀ u ∈ tvs (σ 233) (σ 234) (σ 235) t, ∃ p z, p < 6 ∧ z < n ∧ σ 241 u = nI p ∧ aV a (6 * s + p) = nI z ∧ tgd (σ 233) (σ 234) (σ 235) z = true ∧ (σ 240 u = nI 0 → σ 233 z = nI 0)) (hsub : ∀ v ∈ kVs τ x, v ∈ tvs (σ 233) (σ 234) (σ 235) t) : kSt τ n 202 (7 * s + 1) (wV τ s) x ∧ iT τ s x = tin (stI σ a) s x := by
  have hi := sF_hi hG.1
  obtain ⟨t1, t2, -⟩ := tb_at h hG
  have hn := t1.1
  have hkv := kVs_at h hG hx
  have hmst : mSt (stI τ a) n s x := by
    intro u hu
    have hu : u ∈ tvs (τ 233) (τ 234) (τ 235) x := hu
    rw [hi 233 (by decide), hi 234 (by decide), hi 235 (by decide), ← hkv] at hu
    obtain ⟨p, z, p1, p2, p3, p4, p5, p6⟩ := hv u (hsub u hu)
    refine ⟨p, z, p1, p2, ?_, p4, ?_, ?_⟩
    · show τ 241 u = _
      rw [hi 241 (by decide)]
      exact p3
    · show tgd (τ 233) (τ 234) (τ 235) z = true
      rw [hi 233 (by decide), hi 234 (by decide), hi 235 (by decide)]
      exact p5
    · show τ 240 u = _ → τ 233 z = _
      rw [hi 233 (by decide), hi 240 (by decide)]
      exact p6
  have hval : ∀ k, k < 6 → nnI (τ 202 (7 * s + 1 + k)) = stI τ a 265 (6 * s + k) := fun k hk => by
    rw [stI_va τ a hk, ← hst]
    unfold stF
    rw [if_pos (by omega), Nat.zero_add]
  obtain ⟨g1, g2⟩ := kSt_run (σ := stI τ a) (τ := τ) (A := 202) (base := 7 * s + 1) (b := b) t1 t2 hx hmst hval rfl rfl (fun z _ => ⟨rfl, rfl, rfl⟩)
  have hW : ∀ v ∈ kVs τ x, wV τ s v = (fun v => tvl (stI τ a 233) (stI τ a 234) (stI τ a 235) (mVl (stI τ a) s v)) v := fun v hv' => by
    obtain ⟨p, z, z1, z2, z3, z4, z5, z6, z7⟩ := g1 v hv'
    rw [← z6]
    unfold wV
    rw [z3, fN_nI (by omega), z4, fN_nI (by omega)]
  refine ⟨fun v hv' => ?_, ?_⟩
  · obtain ⟨p, z, z1, z2, z3, z4, z5, z6, z7⟩ := g1 v hv'
    exact ⟨p, z, z1, z2, z3, z4, z5, z6.trans (hW v hv').symm, z7⟩
  · unfold iT
    rw [tW_cg (kOk_at h hG) x hx hW, g2, tin_hi (stI_hi hi a)]
/-- a part stays when the draft changes elsewhere -/
theorem pt_shift {ω : kS} {u s x : Nat} {l : rwT} (h : aJ σ n b R S C kl m) (hG : cGx σ τ) (hF : fF τ ω) (hx : x < n) (hw : ∀ v ∈ kVs τ x, ω 202 (7 * s + 1 + fN (τ 12 v)) = τ 202 (7 * s + 1 + fN (τ 12 v))) (hp : ptQ τ n u l s x) : ptQ ω n u l s x := by
  have e : ∀ c, c < 202 ∨ 232 ≤ c ∨ c = 230 ∨ c = 231 → ω c = τ c := fun c hc => hF c (by omega) (by omega) (by omega)
  have eT : iT ω s x = iT τ s x := by
    have e1 : iT ω s x = tW τ (wV ω s) x := by
      unfold iT tW
      rw [e 2 (by decide), e 3 (by decide), e 4 (by decide)]
    rw [e1]
    refine tW_cg (kOk_at h hG) x hx (fun v hv => ?_)
    unfold wV kTv
    rw [e 2 (by decide), e 3 (by decide), e 4 (by decide), e 12 (by decide), hw v hv]
  unfold ptQ vaQ at hp ⊢
  rw [eT, e 230 (by decide), e 231 (by decide)]
  unfold kIn kTv kGd mA at hp ⊢
  rw [e 2 (by decide), e 3 (by decide), e 4 (by decide), e 233 (by decide), e 238 (by decide)]
  exact hp
end WT
/-- the draft, behind a choice -/
theorem wy_st {σ τ : kS} {n S s r dn w : Nat} {a D : Nat → Int32} (h6 : ∀ u ∈ bls σ r dn, fN (σ 241 u) < 6) (hs : s < S) (hD : ∀ i, i < 7 * S → D i = aUp a s i) (ha0 : ∀ i, 7 * S ≤ i → a i = 0) (hp : (owP σ r dn).Pairwise (fun x y => x ≠ y)) (c4 : ∀ j (h : j < (owP σ r dn).length) (h' : j < (owS σ r dn).length), τ 202 (7 * s + 1 + (owP σ r dn)[j]'h) = nI ((opL σ ((owS σ r dn)[j]'h') n).getD ((dg ((owO σ n r dn).map List.length) w).getD j 0) 0)) (c5 : ∀ i, (∀ j (h : j < (owP σ r dn).length), i ≠ 7 * s + 1 + (owP σ r dn)[j]'h) → τ 202 i = D i) : stF τ 202 0 S = aWy σ n r dn s a w := by
  obtain ⟨l1, l2, l3⟩ := ow_len σ n r dn w
  have l4 : (owS σ r dn).length = (bls σ r dn).length := by unfold owS; rw [List.length_map]
  have hPj : ∀ j (hj : j < (bls σ r dn).length), (owP σ r dn)[j]'(by omega) = fN (σ 241 ((bls σ r dn)[j]'hj)) := fun j hj => by
    simp only [owP, List.getElem_map]
  funext i
  unfold stF
  by_cases hi : i < 7 * S
  · rw [if_pos hi, Nat.zero_add]
    by_cases q : ∀ u ∈ bls σ r dn, i ≠ 7 * s + 1 + fN (σ 241 u)
    · rw [aWy_ne q, c5 i (fun j hj => ?_), hD i hi]
      rw [hPj j (by omega)]
      exact q _ (List.getElem_mem _)
    · obtain ⟨u, hu, e⟩ : ∃ u ∈ bls σ r dn, i = 7 * s + 1 + fN (σ 241 u) := Classical.byContradiction (fun z => q (fun u hu e => z ⟨u, hu, e⟩))
      obtain ⟨j, hj, rfl⟩ := List.getElem_of_mem hu
      have e1 := c4 j (by omega) (by omega)
      rw [hPj j hj] at e1
      rw [e, e1, aWy_at hp hj (by omega)]
      have hd : j < (dg ((owO σ n r dn).map List.length) w).length := by
        rw [dg_len, List.length_map]
        omega
      have e2 : (owO σ n r dn)[j]'(by omega) = opL σ ((owS σ r dn)[j]'(by omega)) n := by
        simp only [owO, owS, List.getElem_map]
      rw [wyT_at (by omega) (by omega) hd, e2, List.getD_eq_getElem?_getD (l := dg ((owO σ n r dn).map List.length) w), List.getElem?_eq_getElem hd]
      rfl
  · rw [if_neg hi, aWy_ne (fun u hu => by have := h6 u hu; omega)]
    unfold aUp
    rw [pk_un (by omega)]
    exact (ha0 i (by omega)).symm
end
section
/-! alike: tryWays -/
theorem lI_toInt {k : Nat} (h : k < 9223372036854775808) : (lI k).toInt = k := by
  unfold lI
  rw [Int64.toInt_ofInt_of_le (by omega) (by omega)]
theorem lI_32 {k : Nat} (h : k < 2147483648) : (lI k).toInt32 = nI k := by
  apply Int32.toInt_inj.mp
  rw [Int64.toInt_toInt32, lI_toInt (by omega), nI_toInt h, Int.bmod_def]
  have : (k : Int) % ((2 ^ 32 : Nat) : Int) = k := Int.emod_eq_of_lt (by omega) (by omega)
  rw [this, if_pos (by omega)]
theorem wyN_le : ∀ {cs : List Nat}, (∀ c ∈ cs, c ≤ 200) → wyN cs ≤ 200 ^ cs.length
  | [], _ => by decide
  | c :: cs, h => by
    have h1 := wyN_le (cs := cs) (fun x hx => h x (List.mem_cons_of_mem _ hx))
    have h2 := h c List.mem_cons_self
    show c * wyN cs ≤ 200 ^ (cs.length + 1)
    rw [Nat.pow_succ, Nat.mul_comm (200 ^ cs.length)]
    exact Nat.mul_le_mul h2 h1
theorem sub_toInt {k : Nat} (hk : k ≤ 20001) : ((Int16.ofInt 20000).toInt32 - nI k).toInt = 20000 - (k : Int) := by
  rw [show (Int16.ofInt 20000).toInt32 = nI 20000 from rfl, Int32.toInt_sub, nI_toInt (by omega), nI_toInt (by omega), Int.bmod_def]
  by_cases q : k ≤ 20000
  · have : (((20000 : Nat) : Int) - (k : Int)) % ((2 ^ 32 : Nat) : Int) = 20000 - k := Int.emod_eq_of_lt (by omega) (by omega)
    rw [this, if_pos (by omega)]
  · obtain rfl : k = 20001 := by omega
    decide
theorem lw_in {W k : Nat} (hW : W < 9223372036854775808) (hk : k ≤ 20001) (q : jcmp .le (lg_cmp (lI W) ((Int16.ofInt 20000).toInt32 - nI k).toInt64) 0 = true) : k + W ≤ 20000 := by
  have q := lw_le q
  rw [Int64.le_iff_toInt_le, lI_toInt hW, Int32.toInt_toInt64, sub_toInt hk] at q
  omega
theorem lw_out {W k : Nat} (hW : W < 9223372036854775808) (hk : k ≤ 20001) (q : jcmp .le (lg_cmp (lI W) ((Int16.ofInt 20000).toInt32 - nI k).toInt64) 0 = false) : 20000 < k + W := by
  have q : ¬ lg_cmp (lI W) ((Int16.ofInt 20000).toInt32 - nI k).toInt64 ≤ 0 := of_decide_eq_false q
  refine Classical.byContradiction (fun z => q ?_)
  have : ¬ lI W > ((Int16.ofInt 20000).toInt32 - nI k).toInt64 := by
    show ¬ ((Int16.ofInt 20000).toInt32 - nI k).toInt64 < lI W
    rw [Int64.lt_iff_toInt_lt, lI_toInt hW, Int32.toInt_toInt64, sub_toInt hk]
    omega
  unfold lg_cmp
  rw [if_neg this]
  split <;> decide
theorem lw_ge {j W : Nat} (hj : j < 2147483648) (hW : W < 2147483648) (q : jcmp .ge (lg_cmp (nI j).toInt64 (lI W)) 0 = true) : W ≤ j := by
  have q : 0 ≤ lg_cmp (nI j).toInt64 (lI W) := of_decide_eq_true q
  rw [lg_cmp_ge, Int64.le_iff_toInt_le, Int32.toInt_toInt64, nI_toInt hj, lI_toInt (by omega)] at q
  omega
theorem lw_geF {j W : Nat} (hj : j < 2147483648) (hW : W < 2147483648) (q : jcmp .ge (lg_cmp (nI j).toInt64 (lI W)) 0 = false) : j < W := by
  have q : ¬ 0 ≤ lg_cmp (nI j).toInt64 (lI W) := of_decide_eq_false q
  rw [lg_cmp_ge, Int64.le_iff_toInt_le, Int32.toInt_toInt64, nI_toInt hj, lI_toInt (by omega)] at q
  omega
theorem sWy_n {σ : kS} {kl : List Nat} {S C i s t : Nat} {a : Nat → Int32} {ps : List Nat} {os : List (List Nat)} {x : sX} (h : x.2.2.2 ≠ 0) : ∀ m w, sWy σ kl S C i s a t ps os m w x = x
  | 0, _ => rfl
  | m + 1, w => by
    rw [sWy, cit_F h]
/-- one way -/
noncomputable def sW1 (σ : kS) (kl : List Nat) (n S C i s : Nat) (a : Nat → Int32) (r dn t w : Nat) (x : sX) : sX := cit (trM σ (trSt (stI σ a) kl S) (tin (stI σ (aWy σ n r dn s a w)) s t)) (sRe σ kl S C x (aWy σ n r dn s a w) (nI i) (nI s)) x
theorem sWy_s {σ : kS} {kl : List Nat} {n S C i s t r dn : Nat} {a : Nat → Int32} {x : sX} (h : x.2.2.2 = 0) (m w : Nat) : sWy σ kl S C i s a t (owP σ r dn) (owO σ n r dn) (m + 1) w x = sWy σ kl S C i s a t (owP σ r dn) (owO σ n r dn) m (w + 1) (sW1 σ kl n S C i s a r dn t w x) := by
  rw [sWy, cit_T h]
  rfl
/-- STATES only come -/
theorem sRe_pre {σ : kS} {kl : List Nat} {S C i : Nat} {x : sX} {a : Nat → Int32} {f y : Int32} (hi : i < x.1.length) : i < (sRe σ kl S C x a f y).1.length ∧ xq (sRe σ kl S C x a f y).1 i = xq x.1 i := by
  unfold sRe
  by_cases q : ∃ q ∈ x.1, q.1 = a
  · rw [cit_T q]
    exact ⟨hi, rfl⟩
  · rw [cit_F q]
    by_cases q2 : 600 ≤ x.1.length
    · rw [cit_T q2]
      exact ⟨hi, rfl⟩
    · rw [cit_F q2]
      refine ⟨?_, xq_lt hi⟩
      show i < (x.1 ++ [(a, f, y)]).length
      rw [List.length_append]
      exact Nat.lt_add_right _ hi
theorem sW1_pre {σ : kS} {kl : List Nat} {n S C i j s r dn t w : Nat} {x : sX} {a : Nat → Int32} (hi : j < x.1.length) : j < (sW1 σ kl n S C i s a r dn t w x).1.length ∧ xq (sW1 σ kl n S C i s a r dn t w x).1 j = xq x.1 j := by
  unfold sW1
  by_cases q : trM σ (trSt (stI σ a) kl S) (tin (stI σ (aWy σ n r dn s a w)) s t)
  · rw [cit_T q]
    exact sRe_pre hi
  · rw [cit_F q]
    exact ⟨hi, rfl⟩
/-- receiving brings the intruder nothing -/
theorem tr_way {σ : kS} {n b R S C s r dn t w m : Nat} {kl : List Nat} {a : Nat → Int32} (h : aJ σ n b R S C kl m) (ha : aOk σ n R S a) (hs : s < S) (r1 : r < R) (r2 : σ 255 s = nI r) (r3 : a (7 * s) = nI dn) (hdn : dn < fN (σ 247 r)) (hse : σ 249 (6 * r + dn) = 0) (ht : t < n) (het : σ 248 (6 * r + dn) = nI t) (hw : w < wyN ((owO σ n r dn).map List.length)) : trSt (stI σ (aWy σ n r dn s a w)) kl S = trSt (stI σ a) kl S := by
  have hT := h.1.1
  have hR := h.1.2.1
  have hR4 := hR.1
  have he6 : fN (σ 247 r) ≤ 6 := by
    obtain ⟨-, e, e1, e2⟩ := hR.2.2.1 r r1
    rw [e2, fN_nI (by omega)]
    exact e1
  obtain ⟨-, hp, -⟩ := aOk_way hT hR ha hs r1 r2 r3 hdn hse ht het hw
  refine trSt_cg (σ := stI σ a) (b := b) hT hR h.1.2.2.2.1 (aOk_Sv hT hR h.1.2.2.1 ha) (fun u _ => ⟨rfl, rfl, rfl⟩) (eqC_of (P := fun c => c ≠ 264 ∧ c ≠ 265) (fun c q => by rw [stI_lo _ _ q.1 q.2, stI_lo _ _ q.1 q.2]) _ (by decide)) (fun u hu => ?_) (fun u k hu hk hne => ?_)
  · by_cases e : u = s
    · subst e
      refine Or.inr ⟨((hp.2 u hu).2 rfl).1, ?_⟩
      show σ 249 (6 * fN (σ 255 u) + fN (a (7 * u))) = 0
      rw [r2, r3, fN_nI (by omega), fN_nI (by omega)]
      exact hse
    · exact Or.inl ((hp.2 u hu).1 e).1
  · by_cases e : u = s
    · exact ((hp.2 u hu).2 e).2 k hk hne
    · exact ((hp.2 u hu).1 e).2 k hk
theorem dgv_0 (cs : List Nat) : (fun j => (dg cs 0).getD j 0) = fun _ => 0 := by
  funext j
  rw [List.getD_eq_getElem?_getD]
  by_cases h : j < cs.length
  · rw [List.getElem?_eq_getElem (by rw [dg_len]; exact h)]
    exact dg_0 cs j h
  · rw [List.getElem?_eq_none (by rw [dg_len]; omega)]
    rfl
/-- how the loop over the ways stands: the way before was w - 1 -/
def twI (σ τ ω : kS) (n S s r dn u : Nat) (pl : List Nat) (l : rwT) (w : Nat) : Prop := (w = 0 → ω 202 = τ 202) ∧ (w ≠ 0 → wyQ ω ω s (owP σ r dn) (owS σ r dn) (fun so => opL σ so n) (fun j => (dg ((owO σ n r dn).map List.length) (w - 1)).getD j 0) (τ 202) (owS σ r dn).length ∧ ∀ x ∈ pl, ptQ ω n u l s x)
end
section
/-! alike: tryWays, walked -/
theorem ow_cs (σ : kS) (n r dn : Nat) : (owS σ r dn).map (fun so => (opL σ so n).length) = (owO σ n r dn).map List.length := by
  unfold owS owO
  rw [List.map_map, List.map_map]
  rfl
theorem iE_q {τ ω : kS} {K st n u m : Nat} {l : rwT} (e : ∀ c, c ≠ 202 → c ≠ 222 → c ≠ 229 → c ≠ 230 → c ≠ 231 → ω c = τ c) (h : iE τ K st n u m l) : iE ω K st n u m l ∧ kTr ω l = kTr τ l := by
  have b := isK_b h.1
  have e' : ∀ c, c < 202 ∨ (202 < c ∧ c < 222) ∨ (222 < c ∧ c < 229) ∨ 231 < c → ω c = τ c := fun c hc => e c (by omega) (by omega) (by omega) (by omega) (by omega)
  refine iE_ot h ⟨fun z _ => ?_, e' _ (by decide), fun c c1 c2 => e' c ?_, ?_, e' _ (by decide)⟩ (e' _ (by decide)) (fun t ht => ?_)
  · rw [e' 2 (by decide), e' 3 (by decide), e' 4 (by decide), e' 5 (by decide), e' 6 (by decide)]
    exact ⟨rfl, rfl, rfl, rfl, rfl⟩
  · rcases h.1 with ⟨k1, -⟩ | ⟨k1, -⟩ | ⟨k1, -⟩ <;> omega
  · unfold mA
    rw [e' 233 (by decide)]
  · have := h.2.2.2.1 t ht
    unfold aT1 at this ⊢
    rw [e' 2 (by decide), e' 3 (by decide), e' 4 (by decide), e' 5 (by decide), e' 8 (by decide), e' 9 (by decide), e' 10 (by decide), e' 11 (by decide), e' 12 (by decide), e' 233 (by decide), e' 234 (by decide), e' 235 (by decide), e' 236 (by decide), e' 237 (by decide), e' 238 (by decide), e' 239 (by decide), e' 240 (by decide), e' 241 (by decide)]
    exact this
theorem cX_f {σ τ ω : kS} {n R S C mm : Nat} {x x' : sX} (h : cX σ τ n R S C x mm) (e' : ∀ c, c ≠ 195 → ω c = τ c) (e1 : x'.1 = x.1) (hf : cFx σ ω S C x') (ha : cAy ω x') : cX σ ω n R S C x' mm := by
  obtain ⟨⟨a1, a2, a3, a4, a5⟩, g2, g3, -, g5, ⟨m2, g6, g6'⟩, ⟨u3, m3, l3, g7, g8⟩, g9, -⟩ := h
  have hgt : ∀ g, 200 ≤ g → ω 2 g = τ 2 g ∧ ω 3 g = τ 3 g ∧ ω 4 g = τ 4 g ∧ ω 6 g = τ 6 g := fun g _ => by
    rw [e' 2 (by decide), e' 3 (by decide), e' 4 (by decide), e' 6 (by decide)]
    exact ⟨rfl, rfl, rfl, rfl⟩
  refine ⟨⟨sF_trans a1 (sF_of (fun c hc => e' c (by omega))), fun j hj => by rw [e' 5 (by decide)]; exact a2 j hj, cKw_eq (by decide) (e' _ (by decide)) (e' _ (by decide)) (e' _ (by decide)) hgt a3, cKw_eq (by decide) (e' _ (by decide)) (e' _ (by decide)) (e' _ (by decide)) hgt a4, cQ_eq (e' _ (by decide)) (e' _ (by decide)) a5⟩, ?_, ?_, hf, fun so hso => ?_, ⟨m2, g6, kMs_eq (fun c c1 c2 => e' c (by omega)) g6'⟩, ⟨u3, m3, l3, g7, iE_195 (fun c hc => e' c hc) g8⟩, by rw [e1]; exact g9, ha⟩
  · rw [e1]
    unfold sWi at g2 ⊢
    rw [e' 196 (by decide), e' 197 (by decide), e' 201 (by decide), e' 200 (by decide)]
    exact g2
  · rw [e1]
    unfold cSx stF at g3 ⊢
    rw [e' 197 (by decide), e' 198 (by decide), e' 199 (by decide)]
    exact g3
  · rw [e' 228 (by decide), e' (224 + so) (by omega)]
    exact g5 so hso
/-- a way was weighed -/
theorem cX_w {σ τ ω : kS} {n R S C mm u m2 : Nat} {x : sX} {l : rwT} (h : cX σ τ n R S C x mm) (hw : wqF τ ω) (hE : iE ω 204 776 n u m2 l) (hm : m2 ≤ mm) (hq : cQ ω) : cX σ ω n R S C x mm := by
  obtain ⟨⟨h1, h2, h3, h4, h5⟩, g2, g3, g4, g5, ⟨m2', g6, g6'⟩, ⟨u3, m3, l3, g7, g8⟩, g9, g10⟩ := h
  have e' : ∀ c, c < 210 ∨ (210 < c ∧ c < 230) ∨ 231 < c → ω c = τ c := fun c hc => hw c (by omega) (by omega) (by omega)
  have hgt : ∀ g, 200 ≤ g → ω 2 g = τ 2 g ∧ ω 3 g = τ 3 g ∧ ω 4 g = τ 4 g ∧ ω 6 g = τ 6 g := fun g _ => by
    rw [e' 2 (by decide), e' 3 (by decide), e' 4 (by decide), e' 6 (by decide)]
    exact ⟨rfl, rfl, rfl, rfl⟩
  refine ⟨⟨sF_trans h1 (sF_of (fun c hc => e' c (by omega))), fun j hj => by rw [e' 5 (by decide)]; exact h2 j hj, cKw_eq (by decide) (e' _ (by decide)) (e' _ (by decide)) (e' _ (by decide)) hgt h3, cKw_eq (by decide) (e' _ (by decide)) (e' _ (by decide)) (e' _ (by decide)) hgt h4, hq⟩, ?_, ?_, ?_, fun so hso => ?_, ⟨m2, hm, hE.2.2.2.2.2.1⟩, ⟨u3, m3, l3, g7, ?_⟩, g9, ?_⟩
  · unfold sWi at g2 ⊢
    rw [e' 196 (by decide), e' 197 (by decide), e' 201 (by decide), e' 200 (by decide)]
    exact g2
  · unfold cSx stF at g3 ⊢
    rw [e' 197 (by decide), e' 198 (by decide), e' 199 (by decide)]
    exact g3
  · unfold cFx at g4 ⊢
    rw [e' 195 (by decide)]
    exact g4
  · rw [e' 228 (by decide), e' (224 + so) (by omega)]
    exact g5 so hso
  · refine (iE_ot g8 ⟨fun z _ => ?_, e' _ (by decide), fun c c1 c2 => e' c (by omega), ?_, e' _ (by decide)⟩ (e' _ (by decide)) hE.2.2.2.1).1
    · rw [e' 2 (by decide), e' 3 (by decide), e' 4 (by decide), e' 5 (by decide), e' 6 (by decide)]
      exact ⟨rfl, rfl, rfl, rfl, rfl⟩
    · unfold mA
      rw [e' 233 (by decide)]
  · unfold cAy at g10 ⊢
    rw [e' 195 (by decide), e' 198 (by decide), e' 199 (by decide), e' 203 (by decide)]
    exact g10
/-- the draft is among the STATES -/
theorem cX_in {σ τ : kS} {n R S C mm : Nat} {x : sX} {a : Nat → Int32} (h : cX σ τ n R S C x mm) (ha : stF τ 202 0 S = a) : sIn τ (7 * S) x.1.length ↔ ∃ q ∈ x.1, q.1 = a := by
  rw [xq_mem]
  unfold sIn
  refine exists_congr (fun i => and_congr_right (fun hi => ?_))
  rw [← (h.2.2.1 i hi).1, ← ha, stF_eq]
  refine ⟨fun z j hj => ?_, fun z j hj => ?_⟩
  · rw [Nat.zero_add]
    exact (z j hj).symm
  · have := z j hj
    rw [Nat.zero_add] at this
    exact this.symm
set_option maxRecDepth 100000 in
set_option maxHeartbeats 4000000 in
theorem mX_tryWays (L : Nat) (xs : Nat → Int32) (d : Nat) (σ τ : kS) (n b R S C m0 mm i s r dn t u m2 W : Nat) (kl : List Nat) (x : sX) (a : Nat → Int32) (l : rwT) (h : aJ σ n b R S C kl m0) (hX : cX σ τ n R S C x mm) (hE : iE τ 204 776 n u m2 l) (hm2 : m2 ≤ mm) (hi : i < x.1.length) (hai : (xq x.1 i).1 = a) (hs : s < S) (r1 : r < R) (r2 : σ 255 s = nI r) (r3 : a (7 * s) = nI dn) (hdn : dn < fN (σ 247 r)) (hse : σ 249 (6 * r + dn) = 0) (ht : t < n) (het : σ 248 (6 * r + dn) = nI t) (htr : kTr τ l = trSt (stI σ a) kl S) (hD : ∀ j, j < 7 * S → τ 202 j = aUp a s j) (han : x.2.2.2 = 0) (hW : wyN ((owO σ n r dn).map List.length) = W) (X : sX) (hXe : X = cit (20000 < x.2.1 + W) (x.1, 20001, x.2.2.1, -7) (sWy σ kl S C i s a t (owP σ r dn) (owO σ n r dn) W 0 (x.1, x.2.1 + W, x.2.2.1, x.2.2.2))) :
    kXM kT L xs (d + 56) 83 [.ref 195, .int (nI i), .int (nI s), .ref (28 + 35 * r + 5 * dn)] τ (fun q ω => q = none ∧ cX σ ω n R S C X mm ∧ iE ω 204 776 n u m2 l ∧ kTr ω l = trSt (stI σ a) kl S) := by
  have hT := h.1.1
  have hR := h.1.2.1
  have hn := hT.1
  have hS4 := h.1.2.2.1.1
  have hR4 := hR.1
  have hs4 : s < 4 := by omega
  have hr4 : r < 4 := by omega
  have he6 : fN (σ 247 r) ≤ 6 := by
    obtain ⟨-, e, e1, e2⟩ := hR.2.2.1 r r1
    rw [e2, fN_nI (by omega)]
    exact e1
  have hk6 : dn < 6 := by omega
  have b0 := ev_b r dn 0 hr4 hk6 (by decide)
  have b4 := ev_b r dn 4 hr4 hk6 (by decide)
  have hok : aOk σ n R S a := by
    rw [← hai]
    exact (hX.2.2.2.2.2.2.2.1.2 i hi).1
  obtain ⟨w1, w2, w3, w4, w5, w6⟩ := hX.2.2.2.1
  obtain ⟨bo1, bo2, bo3, bo4, bo5⟩ := bls_ok hT hR r1 hdn het ht
  have h6 : ∀ v ∈ bls σ r dn, fN (σ 241 v) < 6 := fun v hv => by
    obtain ⟨-, ⟨k, k1, k2⟩, -⟩ := bo3 v hv
    rw [k2, fN_nI (by omega)]
    exact k1
  have hpw := ow_pw hT hR r1 hdn het ht
  have lP : (owP σ r dn).length = (bls σ r dn).length := (ow_len σ n r dn 0).1
  have lO : (owO σ n r dn).length = (bls σ r dn).length := (ow_len σ n r dn 0).2.1
  have lS : (owS σ r dn).length = (bls σ r dn).length := by unfold owS; rw [List.length_map]
  have hPj : ∀ j (hj : j < (bls σ r dn).length), (owP σ r dn)[j]'(by omega) = fN (σ 241 ((bls σ r dn)[j]'hj)) := fun j hj => by
    simp only [owP, List.getElem_map]
  have hf200 : ∀ so, so < 4 → (opL σ so n).length ≤ 200 := fun so _ => by have := opL_len σ so n; omega
  have hcs : ∀ c ∈ (owO σ n r dn).map List.length, c ≤ 200 := fun c hc => by
    obtain ⟨q, hq, rfl⟩ := List.mem_map.mp hc
    unfold owO at hq
    obtain ⟨v, hv, rfl⟩ := List.mem_map.mp hq
    have := opL_len σ (fN (σ 240 v)) n
    omega
  have hWle : W ≤ 200 ^ 6 := by
    rw [← hW]
    refine Nat.le_trans (wyN_le hcs) (Nat.pow_le_pow_right (by decide) ?_)
    rw [List.length_map]
    omega
  have hW63 : W < 9223372036854775808 := Nat.lt_of_le_of_lt hWle (by decide)
  obtain ⟨hev, pl, hpl, hsub, hpf⟩ := ev_facts h hX.1 r1 hdn hse ht het
  have hevo : ∀ {ω : kS}, cGx σ ω → evQ ω (28 + 35 * r + 5 * dn) (owP σ r dn) (owS σ r dn) := fun hG => (ev_facts h hG r1 hdn hse ht het).1
  have hplo : ∀ {ω : kS}, cGx σ ω → plP ω n (28 + 35 * r + 5 * dn) t pl := fun {ω} hG => by
    have ec : ∀ j, j ≤ 4 → ω (28 + 35 * r + 5 * dn + j) = τ (28 + 35 * r + 5 * dn + j) := fun j hj => by
      rw [sF_13 hG.1 _ (by omega) (by omega), sF_13 hX.1.1 _ (by omega) (by omega)]
    have ec0 : ω (28 + 35 * r + 5 * dn) = τ (28 + 35 * r + 5 * dn) := ec 0 (by omega)
    obtain ⟨p0, p1, p2, p3, p4, p5, p6⟩ := hpl
    refine ⟨p0, by rw [ec0]; exact p1, by rw [ec 3 (by omega)]; exact p2, by rw [ec0]; exact p3, p4, p5, fun j hj q1 q2 p hp q3 => ?_⟩
    have hx := p5 _ (List.getElem_mem hj)
    obtain ⟨x1, x2, x3, -⟩ := hG.1.2 _ (show pl[j]'hj < 776 by omega)
    obtain ⟨y1, y2, y3, -⟩ := hX.1.1.2 _ (show pl[j]'hj < 776 by omega)
    unfold kGd at q1
    rw [kGd_at h hG hx, ← kGd_at h hX.1 hx] at q1
    rw [x1, ← y1] at q2
    rw [x2, x3, ← y2, ← y3] at q3
    exact p6 j hj q1 q2 p hp q3
  have hkvo : ∀ {ω : kS}, cGx σ ω → ∀ y, y < n → kVs ω y = kVs τ y := fun hG y hy => by rw [kVs_at h hG hy, kVs_at h hX.1 hy]
  have hplc : ∀ {ω : kS}, cGx σ ω → ω (28 + 35 * r + 5 * dn + 4) = τ (28 + 35 * r + 5 * dn + 4) := fun hG => by rw [sF_13 hG.1 _ (by omega) (by omega), sF_13 hX.1.1 _ (by omega) (by omega)]
  unfold kXM
  iterate 3 (refine kX_one rfl ?_)
  refine kX_cal (mf_waysOf L xs (d + 54) τ r dn (fun so => opL σ so n) (owS σ r dn) hX.2.2.2.2.1 hf200 hr4 hk6 ⟨hev.1, hev.2.2.1, hev.2.2.2.2.1⟩) rfl (Or.inr rfl) rfl rfl rfl (fun r1 σ1 q1 => ?_)
  obtain ⟨rfl, rfl⟩ := q1
  rw [ow_cs, hW]
  iterate 5 (refine kX_one rfl ?_)
  refine kX_top (w3) ?_
  iterate 3 (refine kX_one rfl ?_)
  repeat refine kX_one rfl ?_
  refine kX_if (fun q => ?_) (fun q => ?_)
  · have hin := lw_in hW63 w4 q
    rw [cit_F (by omega)] at hXe
    have hW32 : W < 2147483648 := by omega
    have loop : ∀ q : Nat × kS × sX, (q.1 ≤ W ∧ cX σ q.2.1 n R S C q.2.2 mm ∧ iE q.2.1 204 776 n u m2 l ∧ kTr q.2.1 l = trSt (stI σ a) kl S ∧ sWy σ kl S C i s a t (owP σ r dn) (owO σ n r dn) (W - q.1) q.1 q.2.2 = X ∧ (i < q.2.2.1.length ∧ (xq q.2.2.1 i).1 = a) ∧ twI σ τ q.2.1 n S s r dn u pl l q.1) → kX kT L xs (d + 56) 83 54 [(6, .int (nI q.1)), (4, .long (lI W)), (0, .ref 195), (1, .int (nI i)), (2, .int (nI s)), (3, .ref (28 + 35 * r + 5 * dn))] [] q.2.1 (fun q ω => q = none ∧ cX σ ω n R S C X mm ∧ iE ω 204 776 n u m2 l ∧ kTr ω l = trSt (stI σ a) kl S) := by
      refine kX_while (fun q : Nat × kS × sX => [(6, .int (nI q.1)), (4, .long (lI W)), (0, .ref 195), (1, .int (nI i)), (2, .int (nI s)), (3, .ref (28 + 35 * r + 5 * dn))]) (fun q => q.2.1) _ (fun q => W - q.1) ?_
      rintro ⟨w, ω, x1⟩ ⟨j0, j1, j2, j3, j4, ⟨j5, j5'⟩, j6⟩ ih
      dsimp only at j0 j1 j2 j3 j4 j5 j5' j6 ih ⊢
      repeat refine kX_one rfl ?_
      refine kX_if (fun q => ?_) (fun q => ?_)
      · have q := lw_ge (by omega) hW32 q
        rw [show W - w = 0 by omega] at j4
        have j4 : x1 = X := j4
        subst j4
        refine kX_ret (i := .return_) (len := 1) rfl (Or.inr rfl) rfl (⟨rfl, j1, j2, j3⟩)
      · have q := lw_geF (by omega) hW32 q
        have hans := j1.2.2.2.1.2.2.2.2.2
        repeat refine kX_one rfl ?_
        refine kX_if (fun q2 => ?_) (fun q2 => ?_)
        · have q2 : x1.2.2.2 ≠ 0 := fun e => qne q2 (hans.trans e)
          rw [sWy_n q2] at j4
          subst j4
          refine kX_ret (i := .return_) (len := 1) rfl (Or.inr rfl) rfl (⟨rfl, j1, j2, j3⟩)
        · have q2 : x1.2.2.2 = 0 := hans.symm.trans (qneF q2)
          obtain ⟨m', hm'⟩ : ∃ m', W - w = m' + 1 := ⟨W - w - 1, by omega⟩
          rw [hm', sWy_s q2] at j4
          have hwW : w < wyN ((owO σ n r dn).map List.length) := by rw [hW]; exact q
          obtain ⟨ok1, ok2, ok3⟩ := aOk_way hT hR hok hs r1 r2 r3 hdn hse ht het hwW
          have k138 : ∀ ρ x2, cX σ ρ n R S C x2 mm → iE ρ 204 776 n u m2 l → kTr ρ l = trSt (stI σ a) kl S → x2 = sW1 σ kl n S C i s a r dn t w x1 → twI σ τ ρ n S s r dn u pl l (w + 1) → ∀ lv, nk lv = true → ([(6, .int (nI w)), (4, .long (lI W)), (0, .ref 195), (1, .int (nI i)), (2, .int (nI s)), (3, .ref (28 + 35 * r + 5 * dn))] : jL).map (fun q => jl lv q.1) = ([(6, .int (nI w)), (4, .long (lI W)), (0, .ref 195), (1, .int (nI i)), (2, .int (nI s)), (3, Value.ref (28 + 35 * r + 5 * dn))] : jL).map (fun q => some q.2) → kX kT L xs (d + 56) 83 138 lv [] ρ (fun q ω => q = none ∧ cX σ ω n R S C X mm ∧ iE ω 204 776 n u m2 l ∧ kTr ω l = trSt (stI σ a) kl S) := by
            intro ρ x2 y1 y2 y3 y4 y5 lv hk hlv
            refine kX_lv _ hk rfl hlv ?_
            have hpre := sW1_pre (σ := σ) (kl := kl) (n := n) (S := S) (C := C) (i := i) (s := s) (r := r) (dn := dn) (t := t) (w := w) (a := a) j5
            rw [← y4] at hpre
            iterate 2 (refine kX_one rfl ?_)
            have := ih (w + 1, ρ, x2) ⟨by simp only; omega, y1, y2, y3, by simp only; rw [show W - (w + 1) = m' by omega, y4]; exact j4, ⟨hpre.1, by simp only; rw [hpre.2]; exact j5'⟩, y5⟩ (by simp only; omega)
            dsimp only at this
            rw [← nI_1] at this
            exact kX_lv _ rfl rfl rfl this
          have k95 : ∀ ρ f, f ≤ 24 → wyQ ω ρ s (owP σ r dn) (owS σ r dn) (fun so => opL σ so n) (fun j => (dg ((owO σ n r dn).map List.length) w).getD j 0) (τ 202) (owS σ r dn).length → (∀ j (hj : j < pl.length), j < f → ptQ ρ n u l s (pl[j]'hj)) → kX kT L xs (d + 56) 83 95 [(6, .int (nI w)), (4, .long (lI W)), (0, .ref 195), (1, .int (nI i)), (2, .int (nI s)), (3, .ref (28 + 35 * r + 5 * dn))] [.int (nI f)] ρ (fun q ω => q = none ∧ cX σ ω n R S C X mm ∧ iE ω 204 776 n u m2 l ∧ kTr ω l = trSt (stI σ a) kl S) := by
            intro ρ f hf hy hptf
            have eq1 : ∀ c, c ≠ 202 → c ≠ 222 → c ≠ 229 → c ≠ 230 → c ≠ 231 → ρ c = ω c := fun c c1 c2 c3 _ _ => hy.1 c c2 c3 c1
            have hXr : cX σ ρ n R S C x1 mm := cX_q j1 eq1 ⟨by rw [hy.1 231 (by decide) (by decide) (by decide)]; exact j1.1.2.2.2.2.1, 7 * s + 1, by omega, hy.2.1⟩
            obtain ⟨hEr, hTrr⟩ := iE_q eq1 j2
            rw [j3] at hTrr
            have hst : stF ρ 202 0 S = aWy σ n r dn s a w := wy_st h6 hs hD hok.1 hpw (fun j hj hj' => hy.2.2.2.1 j hj hj' hj') (fun k hk => hy.2.2.2.2 k (fun j hj _ => hk j hj))
            obtain ⟨-, tb2, tb3, tb4⟩ := tb_at h hXr.1
            have hkst : ∀ y ∈ pl, kSt ρ n 202 (7 * s + 1) (wV ρ s) y := fun y hy' => (wy_iT h hXr.1 hst hs (hsub y hy').1 ok3 (fun v hv => (hsub y hy').2 v (by rw [← hkvo hXr.1 y (hsub y hy').1]; exact hv))).1
            have hpl1 := hplo hXr.1
            have hiT : iT ρ s t = tin (stI σ (aWy σ n r dn s a w)) s t := (wy_iT h hXr.1 hst hs ht ok3 (fun v hv => by rw [kVs_at h hXr.1 ht] at hv; exact hv)).2
            have hvm : vmk (kIn ρ l) (mA ρ) (ρ 238) (iT ρ s t) = trM σ (trSt (stI σ a) kl S) (tin (stI σ (aWy σ n r dn s a w)) s t) := by
              unfold trM
              rw [← hTrr, kTr_I, hiT]
              unfold mA
              rw [sF_hi hXr.1.1 233 (by decide), sF_hi hXr.1.1 238 (by decide)]
            iterate 5 (refine kX_one rfl ?_)
            refine kX_cal (mf_weigh L xs (d + 2) ρ n u m2 r dn s f t l pl hEr tb3 tb4 hr4 hk6 hpl1 hkst hs4 hy.2.1 hf hptf) rfl (Or.inr rfl) rfl rfl rfl (fun r1 π q1 => ?_)
            obtain ⟨rfl, hwq, hEp, hptp, hnp⟩ := q1
            rw [hvm]
            have hQp : cQ π := by
              refine ⟨fun j hj => ?_, 7 * s + 1, by omega, by rw [hwq 222 (by decide) (by decide) (by decide)]; exact hy.2.1⟩
              by_cases e : j ∈ pl
              · have := (hptp j e).2
                show π 231 j = 0 ∨ π 231 j = 1
                rw [this]
                exact isB_01 _
              · show π 231 j = 0 ∨ π 231 j = 1
                rw [hnp j e]
                exact hXr.1.2.2.2.2.1 j hj
            have hXp : cX σ π n R S C x1 mm := cX_w hXr hwq hEp hm2 hQp
            have hTrp : kTr π l = trSt (stI σ a) kl S := by
              rw [← hTrr]
              unfold kTr kTv
              rw [hwq 2 (by decide) (by decide) (by decide), hwq 3 (by decide) (by decide) (by decide), hwq 4 (by decide) (by decide) (by decide)]
            have hstp : stF π 202 0 S = aWy σ n r dn s a w := by
              rw [← hst]
              unfold stF
              rw [hwq 202 (by decide) (by decide) (by decide)]
            have hnext : ∀ κ : kS, κ 222 = π 222 → κ 229 = π 229 → κ 202 = π 202 → (∀ y ∈ pl, ptQ κ n u l s y) → twI σ τ κ n S s r dn u pl l (w + 1) := fun κ e1 e2 e3 e4 => by
              refine ⟨fun z => absurd z (by omega), fun _ => ⟨⟨fun _ _ _ _ => rfl, ?_, ?_, ?_, ?_⟩, e4⟩⟩
              · rw [e1, hwq 222 (by decide) (by decide) (by decide)]
                exact hy.2.1
              · rw [e2, hwq 229 (by decide) (by decide) (by decide), Nat.add_sub_cancel]
                exact hy.2.2.1
              · rw [e3, hwq 202 (by decide) (by decide) (by decide), Nat.add_sub_cancel]
                exact hy.2.2.2.1
              · rw [e3, hwq 202 (by decide) (by decide) (by decide)]
                exact hy.2.2.2.2
            by_cases hcan : trM σ (trSt (stI σ a) kl S) (tin (stI σ (aWy σ n r dn s a w)) s t)
            · rw [isB_T hcan]
              have hw1 : sW1 σ kl n S C i s a r dn t w x1 = sRe σ kl S C x1 (aWy σ n r dn s a w) (nI i) (nI s) := by
                unfold sW1
                rw [cit_T hcan]
              iterate 7 (refine kX_one rfl ?_)
              refine kX_top (y := nI (7 * S)) hXp.2.2.2.1.1 ?_
              refine kX_cal (mf_stHas L xs (d + 53) π (7 * S) x1.1.length (by omega) hXp.2.1) rfl (Or.inr rfl) rfl rfl rfl (fun r1 σ1 q1 => ?_)
              obtain ⟨rfl, rfl⟩ := q1
              rw [isB_iff (cX_in hXp hstp)]
              by_cases hin2 : ∃ q ∈ x1.1, q.1 = aWy σ n r dn s a w
              · rw [isB_T hin2]
                iterate 1 (refine kX_one rfl ?_)
                refine k138 π x1 hXp hEp hTrp ?_ (hnext π rfl rfl rfl hptp) _ rfl rfl
                rw [hw1]
                unfold sRe
                rw [cit_T hin2]
              · rw [isB_F hin2]
                iterate 6 (refine kX_one rfl ?_)
                refine kX_cal (mX_reach L xs d σ π n b R S C m0 mm 204 776 u m2 kl x1 (aWy σ n r dn s a w) l (nI i) (nI s) h hXp (Or.inl ⟨rfl, rfl⟩) hEp hm2 hstp ok1 hin2 q2 (Or.inr ⟨i, s, j5, rfl, rfl, by rw [j5']; exact ok2⟩) (fun _ => by rw [hTrp, tr_way h hok hs r1 r2 r3 hdn hse ht het hwW])) rfl (Or.inr rfl) rfl rfl rfl (fun r1 κ q1 => ?_)
                obtain ⟨rfl, hXk, hEk, hre⟩ := q1
                have hrc : ∀ c, c < 195 ∨ c = 202 ∨ 204 ≤ c → c ≠ 210 → κ c = π c := fun c c1 c2 => hre c c1 c2
                refine k138 κ _ hXk hEk ?_ hw1.symm (hnext κ (hrc _ (by decide) (by decide)) (hrc _ (by decide) (by decide)) (hrc _ (by decide) (by decide)) (fun y hy' => ?_)) _ rfl rfl
                · rw [← hTrp]
                  unfold kTr kTv
                  rw [hrc 2 (by decide) (by decide), hrc 3 (by decide) (by decide), hrc 4 (by decide) (by decide)]
                · have hp := hptp y hy'
                  have eiT : iT κ s y = iT π s y := by
                    unfold iT tW wV kTv
                    rw [hrc 2 (by decide) (by decide), hrc 3 (by decide) (by decide), hrc 4 (by decide) (by decide), hrc 12 (by decide) (by decide), hrc 202 (by decide) (by decide)]
                  unfold ptQ vaQ at hp ⊢
                  rw [eiT, hrc 230 (by decide) (by decide), hrc 231 (by decide) (by decide)]
                  unfold kIn kTv kGd mA at hp ⊢
                  rw [hrc 2 (by decide) (by decide), hrc 3 (by decide) (by decide), hrc 4 (by decide) (by decide), hrc 233 (by decide) (by decide), hrc 238 (by decide) (by decide)]
                  exact hp
            · rw [isB_F hcan]
              iterate 1 (refine kX_one rfl ?_)
              refine k138 π x1 hXp hEp hTrp ?_ (hnext π rfl rfl rfl hptp) _ rfl rfl
              unfold sW1
              rw [cit_F hcan]
          have hpos : ∀ so ∈ owS σ r dn, 0 < (opL σ so n).length := fun so hso => by
            have hp : 0 < wyN ((owO σ n r dn).map List.length) := by omega
            rw [← ow_cs] at hp
            exact wyN_0 hp _ (List.mem_map.mpr ⟨so, hso, rfl⟩)
          repeat refine kX_one rfl ?_
          refine kX_if (fun q3 => ?_) (fun q3 => ?_)
          · have q3 : w ≠ 0 := fun e => qne q3 (by rw [e]; rfl)
            obtain ⟨hy0, hpt0⟩ := j6.2 q3
            obtain ⟨jj, hjj, o1, o2, o3, o4⟩ := odo ((owO σ n r dn).map List.length) (w - 1) (by omega)
            rw [show w - 1 + 1 = w by omega] at o2 o3 o4
            have ld : ∀ v, (dg ((owO σ n r dn).map List.length) v).length = (bls σ r dn).length := fun v => by rw [dg_len, List.length_map, lO]
            have gd : ∀ v j (hj : j < (dg ((owO σ n r dn).map List.length) v).length), (dg ((owO σ n r dn).map List.length) v).getD j 0 = (dg ((owO σ n r dn).map List.length) v)[j]'hj := fun v j hj => by
              rw [List.getD_eq_getElem?_getD, List.getElem?_eq_getElem hj]
              rfl
            have ln : ∀ j (hj : j < (owS σ r dn).length) (hj' : j < ((owO σ n r dn).map List.length).length), ((owO σ n r dn).map List.length)[j]'hj' = (opL σ ((owS σ r dn)[j]'hj) n).length := fun j hj hj' => by
              rw [List.getElem_map]
              simp only [owO, owS, List.getElem_map]
            have hcl : ((owO σ n r dn).map List.length).length = (bls σ r dn).length := by rw [List.length_map, lO]
            have hjb : jj < (bls σ r dn).length := by omega
            obtain ⟨fp, fp1, fp2, fp3⟩ := hpf jj hjb
            have hfp : fp ≤ 24 := by have := hpl.1; omega
            iterate 3 (refine kX_one rfl ?_)
            refine kX_cal (mf_next L xs (d + 53) ω ω r dn s (fun so => opL σ so n) (owP σ r dn) (owS σ r dn) (fun j => (dg ((owO σ n r dn).map List.length) (w - 1)).getD j 0) (fun j => (dg ((owO σ n r dn).map List.length) w).getD j 0) (τ 202) j1.2.2.2.2.1 hf200 hr4 hk6 (hevo j1.1) hs4 hy0 (fun j hj => ?_) jj (by omega) ?_ ?_ (fun j hj => ?_) (fun j hj hjl => ?_) fp (by rw [hplc j1.1]; exact fp2) hfp) rfl (Or.inr rfl) rfl rfl rfl (fun r1 ρ q1 => ?_)
            · have := dg_lt ((owO σ n r dn).map List.length) (w - 1) (by omega) j (by omega)
              rw [ln j hj] at this
              show (dg ((owO σ n r dn).map List.length) (w - 1)).getD j 0 < _
              rw [gd _ _ (by rw [ld]; omega)]
              exact this
            · show (dg ((owO σ n r dn).map List.length) (w - 1)).getD jj 0 + 1 < _
              rw [gd _ _ (by rw [ld]; omega)]
              rw [ln jj (by omega)] at o1
              exact o1
            · show (dg ((owO σ n r dn).map List.length) w).getD jj 0 = (dg ((owO σ n r dn).map List.length) (w - 1)).getD jj 0 + 1
              rw [gd _ _ (by rw [ld]; omega), gd _ _ (by rw [ld]; omega)]
              exact o2
            · show (dg ((owO σ n r dn).map List.length) w).getD j 0 = (dg ((owO σ n r dn).map List.length) (w - 1)).getD j 0
              rw [gd _ _ (by rw [ld]; omega), gd _ _ (by rw [ld]; omega)]
              exact o3 j (by omega) hj
            · show (dg ((owO σ n r dn).map List.length) (w - 1)).getD j 0 + 1 = _ ∧ (dg ((owO σ n r dn).map List.length) w).getD j 0 = 0
              obtain ⟨z1, z2⟩ := o4 j (by omega) hjl
              rw [gd _ _ (by rw [ld]; omega), gd _ _ (by rw [ld]; omega)]
              rw [ln j hj] at z1
              exact ⟨z1, z2⟩
            · obtain ⟨rfl, hy⟩ := q1
              refine kX_lv _ rfl rfl rfl (k95 ρ fp hfp hy (fun j hj hjf => ?_))
              have hxp := (hsub _ (List.getElem_mem hj)).1
              refine pt_shift h j1.1 hy.1 hxp (fun v hv => ?_) (hpt0 _ (List.getElem_mem hj))
              have hv' : v ∈ kVs τ (pl[j]'hj) := by rw [← hkvo j1.1 _ hxp]; exact hv
              have hvt := (hsub _ (List.getElem_mem hj)).2 v hv'
              have hvn := fp3 j hj hjf v hv'
              obtain ⟨te, te1, te2, te3, -⟩ := hR.2.2.2.2.2 r dn r1 hdn
              obtain rfl : t = te := nI_inj (het.symm.trans te2)
              obtain ⟨k, so, v1, k6, kv, vv, kk, kd, -⟩ := mRo_var hT hR r1 ht te3 hvt
              have hpl' : ω 12 v = nI k := by
                have := ((aT1_sF hn j1.1.1 j1.1.2.1 h.2.2.1.1 v v1).2.2.2.2.2.2 (by rw [sF_hi j1.1.1 233 (by decide)]; exact kd)).2.2
                rw [this, sF_hi j1.1.1 241 (by decide)]
                exact kk
              rw [hpl', fN_nI (by omega)]
              by_cases q5 : ∃ j', ∃ (hj' : j' < (bls σ r dn).length), k = fN (σ 241 ((bls σ r dn)[j']'hj'))
              · obtain ⟨j', hj', ek⟩ := q5
                have hbm := List.getElem_mem hj'
                obtain ⟨-, ⟨k2, k26, k22⟩, -⟩ := bo3 _ hbm
                have hee : v = (bls σ r dn)[j']'hj' := by
                  obtain ⟨k3, so3, v13, k63, kv3, vv3, kk3, -⟩ := mRo_var hT hR r1 ht te3 ((bo1 _).mp hbm).1
                  have : k = k3 := by
                    rw [ek, kk3]
                    exact fN_nI (by omega)
                  subst this
                  exact nI_inj (vv.symm.trans vv3)
                have hlt : j' < jj := Classical.byContradiction (fun z => hvn j' hj' (by omega) hee)
                have c1 := hy.2.2.2.1 j' (by omega) (by omega) (by omega)
                have c0 := hy0.2.2.2.1 j' (by omega) (by omega) (by omega)
                rw [hPj j' hj', ← ek] at c1 c0
                rw [c1, c0]
                have e3 := o3 j' (by omega) hlt
                dsimp only
                rw [gd _ _ (by rw [ld]; omega), gd _ _ (by rw [ld]; omega), e3]
              · have c1 := hy.2.2.2.2 (7 * s + 1 + k) (fun j' hj' _ e => q5 ⟨j', by omega, by rw [← hPj j' (by omega)]; omega⟩)
                have c0 := hy0.2.2.2.2 (7 * s + 1 + k) (fun j' hj' _ e => q5 ⟨j', by omega, by rw [← hPj j' (by omega)]; omega⟩)
                rw [c1, c0]
          · have q3 : w = 0 := by
              have q3 : nI w = 0 := qneF q3
              exact nI_inj (b := 0) q3
            subst q3
            iterate 4 (refine kX_one rfl ?_)
            refine kX_cal (mf_first L xs (d + 53) ω r dn s (fun so => opL σ so n) (owP σ r dn) (owS σ r dn) j1.2.2.2.2.1 hf200 hr4 hk6 (hevo j1.1) hpos hs4) rfl (Or.inr rfl) rfl rfl rfl (fun r1 ρ q1 => ?_)
            obtain ⟨rfl, hy⟩ := q1
            rw [j6.1 rfl, ← dgv_0 ((owO σ n r dn).map List.length)] at hy
            iterate 1 (refine kX_one rfl ?_)
            exact kX_lv _ rfl rfl rfl (k95 ρ 0 (by decide) hy (fun j _ hj => absurd hj (Nat.not_lt_zero j)))
    iterate 3 (refine kX_one rfl ?_)
    refine kX_top (w3) ?_
    iterate 3 (refine kX_one rfl ?_)
    refine kX_top (y := nI (x.2.1 + W)) (by rw [lI_32 hW32]; exact nI_add x.2.1 W) ?_
    iterate 3 (refine kX_one rfl ?_)
    have e' : ∀ c, c ≠ 195 → va_up τ 195 (upd (τ 195) 10 (nI (x.2.1 + W))) c = τ c := fun c hc => up_ne hc
    have e5 : ∀ j, j ≠ 10 → va_up τ 195 (upd (τ 195) 10 (nI (x.2.1 + W))) 195 j = τ 195 j := fun j hj => by rw [up_eq, pk_un hj]
    have e6 : va_up τ 195 (upd (τ 195) 10 (nI (x.2.1 + W))) 195 10 = nI (x.2.1 + W) := by rw [up_eq, pk_us]
    have hX2 : cX σ (va_up τ 195 (upd (τ 195) 10 (nI (x.2.1 + W)))) n R S C (x.1, x.2.1 + W, x.2.2.1, x.2.2.2) mm := by
      refine cX_f hX e' rfl ⟨(e5 _ (by decide)).trans w1, (e5 _ (by decide)).trans w2, e6, by simp only; omega, (e5 _ (by decide)).trans w5, (e5 _ (by decide)).trans w6⟩ ⟨fun z => (e5 _ (by decide)).trans (hX.2.2.2.2.2.2.2.2.1 z), fun z => absurd han z⟩
    refine kX_lv _ rfl rfl rfl (loop (0, va_up τ 195 (upd (τ 195) 10 (nI (x.2.1 + W))), (x.1, x.2.1 + W, x.2.2.1, x.2.2.2)) ⟨Nat.zero_le _, hX2, iE_195 e' hE, htr, hXe.symm, ⟨hi, hai⟩, fun _ => rfl, fun z => absurd rfl z⟩)
  · have hout := lw_out hW63 w4 q
    rw [cit_T hout] at hXe
    subst hXe
    iterate 6 (refine kX_one rfl ?_)
    have e' : ∀ c, c ≠ 195 → va_up (va_up τ 195 (upd (τ 195) 10 (nI 20001))) 195 (upd (upd (τ 195) 10 (nI 20001)) 12 (-7)) c = τ c := fun c hc => by rw [up_ne hc, up_ne hc]
    refine kX_ret (i := .return_) (len := 1) rfl (Or.inr rfl) rfl ⟨rfl, cX_f hX e' rfl ⟨w1, w2, rfl, Nat.le_refl _, w5, rfl⟩ ⟨fun _ => hX.2.2.2.2.2.2.2.2.1 (Or.inl han), fun _ z => absurd rfl z⟩, iE_195 e' hE, htr⟩
end
