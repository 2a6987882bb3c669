/-! alike: find, findOrPut of an intruder -/
theorem kV_up {n st u u' g : Nat} (hu : u ≤ u') (h : kV n st u g) : kV n st u' g := by
  unfold kV at *
  omega
set_option maxRecDepth 100000 in
set_option maxHeartbeats 4000000 in
theorem mf_kFind (L : Nat) (xs : Nat → Int32) (d : Nat) (σ : kS) (K st n u m : Nat) (l : rwT) (w x y : Int32) (h : iE σ K st n u m l) (hC : cCn σ n) : kXM kT L xs (d + 2) 48 [.ref K, .int w, .int x, .int y] σ (fun r σ' => cFn σ (fun t => kV n st u t ∧ 3 < fN (σ 2 t)) w x y r ∧ σ = σ') := by
  have hb := isK_b h.1
  have hn := h.2.1
  have hT := h.2.2.2.2.1
  have hu := hT.1
  obtain ⟨s1, s2⟩ := cSl_ok w x y
  unfold kXM
  iterate 3 (refine kX_one rfl ?_)
  refine kX_cal (mc_slot L xs d σ w x y) rfl (Or.inr rfl) rfl rfl rfl (fun r1 σ1 q1 => ?_)
  obtain ⟨rfl, rfl⟩ := q1
  refine kX_top (s2) ?_
  iterate 2 (refine kX_one rfl ?_)
  refine kX_getN rfl rfl (kT_kn h.1) rfl ?_
  iterate 1 (refine kX_one rfl ?_)
  refine kX_getN rfl rfl (kT_kn h.1) rfl ?_
  iterate 2 (refine kX_one rfl ?_)
  refine kX_ialdN rfl rfl (by decide) (fN (cSl w x y)) (by first | rfl | decide) (s1) ?_
  iterate 3 (refine kX_one rfl ?_)
  refine kX_cal (mf_findFrom L xs d σ (fun t => (t < n ∧ 3 < fN (σ 2 t)) ∧ cpt σ t = fN (cSl w x y)) (σ 7 (fN (cSl w x y))) w x y (fun t ht => ⟨by omega, ?_⟩) (hC.1 _ s1)) rfl (Or.inr rfl) rfl rfl rfl (fun r1 σ1 q1 => ?_)
  · have := hC.2 t ht.1
    rw [ht.2] at this
    exact this
  · obtain ⟨hq, rfl⟩ := q1
    rcases cFn_all hq with ⟨rfl, hno⟩ | ⟨t, t1, rfl, t3⟩
    · iterate 4 (refine kX_one rfl ?_)
      iterate 1 (refine kX_one rfl ?_)
      refine kX_getN rfl rfl (kT_kn h.1) rfl ?_
      iterate 1 (refine kX_one rfl ?_)
      refine kX_getN rfl rfl (kT_kn h.1) rfl ?_
      iterate 1 (refine kX_one rfl ?_)
      refine kX_ialdN rfl (kT_k1 h.1) (by decide) (fN (cSl w x y)) (by first | rfl | decide) (s1) ?_
      iterate 3 (refine kX_one rfl ?_)
      refine kX_cal (mf_findFrom L xs d σ (fun t => (st ≤ t ∧ t < st + u) ∧ cpt σ t = fN (cSl w x y)) (σ (K + 1) (fN (cSl w x y))) w x y (fun t ht => ⟨by omega, ?_⟩) (hT.2.2.2.2.2.1 _ s1)) rfl (Or.inr rfl) rfl rfl rfl (fun r1 σ1 q1 => ?_)
      · have := hT.2.2.2.2.2.2 t ht.1
        rw [ht.2] at this
        exact this
      · obtain ⟨hq, rfl⟩ := q1
        rcases cFn_all hq with ⟨rfl, hno2⟩ | ⟨t, t1, rfl, t3⟩
        · refine kX_ret (i := .ireturn) (len := 1) rfl (Or.inr rfl) rfl (⟨Or.inl ⟨rfl, fun t ht => ht.1.elim (fun z => hno t ⟨z, ht.2⟩) (fun z => hno2 t z)⟩, rfl⟩)
        · refine kX_ret (i := .ireturn) (len := 1) rfl (Or.inr rfl) rfl (⟨Or.inr ⟨t, ⟨Or.inr t1, (hT.2.2.2.2.1 t t1.1 t1.2).1⟩, rfl, t3⟩, rfl⟩)
    · iterate 3 (refine kX_one rfl ?_)
      repeat refine kX_one rfl ?_
      refine kX_ifF (decide_eq_false (nI_m1 (by omega))) ?_
      iterate 2 (refine kX_one rfl ?_)
      refine kX_ret (i := .ireturn) (len := 1) rfl (Or.inr rfl) rfl (⟨Or.inr ⟨t, ⟨Or.inl t1.1, t1.2⟩, rfl, t3⟩, rfl⟩)
/-- the intruder's table grows -/
def nF2 (σ τ : kS) (K st : Nat) : Prop := nF σ τ K st ∧ ∀ j, j < st ∨ st + 576 ≤ j → τ 5 j = σ 5 j
theorem nF2_refl (σ : kS) (K st : Nat) : nF2 σ σ K st := ⟨nF_refl σ K st, fun _ _ => rfl⟩
theorem nF2_trans {σ τ ρ : kS} {K st : Nat} (h1 : nF2 σ τ K st) (h2 : nF2 τ ρ K st) : nF2 σ ρ K st := ⟨nF_trans h1.1 h2.1, fun j hj => (h2.2 j hj).trans (h1.2 j hj)⟩
theorem nF2_P {σ τ : kS} {K st : Nat} (hK : isK K st) (h : nP σ τ K) : nF2 σ τ K st := ⟨nF_P hK h, fun j _ => by have := isK_b hK; rw [h.1 5 (by omega)]⟩
def iX (σ τ : kS) (K st n u u' : Nat) : Prop := u ≤ u' ∧ nF2 σ τ K st ∧ (∀ z, kV n st u z → τ 2 z = σ 2 z ∧ τ 3 z = σ 3 z ∧ τ 4 z = σ 4 z) ∧ τ K 13 = σ K 13
theorem iX_refl (σ : kS) (K st n u : Nat) : iX σ σ K st n u u := ⟨Nat.le_refl _, nF2_refl σ K st, fun _ _ => ⟨rfl, rfl, rfl⟩, rfl⟩
theorem iX_trans {σ τ ρ : kS} {K st n u u' u'' : Nat} (h1 : iX σ τ K st n u u') (h2 : iX τ ρ K st n u' u'') : iX σ ρ K st n u u'' :=
  ⟨by have := h1.1; have := h2.1; omega, nF2_trans h1.2.1 h2.2.1, fun z hz => by
    obtain ⟨a1, a2, a3⟩ := h1.2.2.1 z hz
    obtain ⟨b1, b2, b3⟩ := h2.2.2.1 z (kV_up h1.1 hz)
    exact ⟨b1.trans a1, b2.trans a2, b3.trans a3⟩, h2.2.2.2.trans h1.2.2.2⟩
section IX
variable {σ τ : kS} {K st n u u' m : Nat} {l : rwT}
theorem iX_A {α : Type} {lf : Nat → α} {nd : Nat → α → Option α → α} (h : iE σ K st n u m l) (hX : iX σ τ K st n u u') {z : Nat} (hz : kV n st u z) : tA lf nd (τ 2) (τ 3) (τ 4) z = tA lf nd (σ 2) (σ 3) (σ 4) z :=
  tA_congr (iE_V h) (fun t ht => by obtain ⟨a, b, c⟩ := hX.2.2.1 t ht; exact ⟨a, b, c, rfl⟩) z hz
theorem iX_kTv (h : iE σ K st n u m l) (hX : iX σ τ K st n u u') {z : Nat} (hz : kV n st u z) : kTv τ z = kTv σ z := iX_A h hX hz
theorem iX_kGd (h : iE σ K st n u m l) (hX : iX σ τ K st n u u') {z : Nat} (hz : kV n st u z) : kGd τ z ↔ kGd σ z := by
  have : tgd (τ 2) (τ 3) (τ 4) z = tgd (σ 2) (σ 3) (σ 4) z := tA_congr (iE_V h) (fun t ht => by obtain ⟨a, b, c⟩ := hX.2.2.1 t ht; exact ⟨a, b, c, by rw [a]⟩) z hz
  unfold kGd
  rw [this]
theorem iX_kDp (h : iE σ K st n u m l) (hX : iX σ τ K st n u u') {z : Nat} (hz : kV n st u z) : kDp τ z = kDp σ z := iX_A h hX hz
theorem iX_kTr (h : iE σ K st n u m l) (hX : iX σ τ K st n u u') : kTr τ l = kTr σ l := by
  unfold kTr
  refine List.map_congr_left (fun q hq => ?_)
  rw [iX_kTv h hX (iE_l h ⟨q, hq, rfl⟩).1]
end IX
/-- one more TERM without number -/
theorem iE_put {σ : kS} {K st n u m k x y sl : Nat} {l : rwT} {a c z : Int32} (h : iE σ K st n u m l) (hC : cCn σ n) (hu : u < 576) (hk : 3 < k) (hw : tNw k a c x y (st + u)) (hx : kV n st u x) (hy : k = 4 ∨ k = 5 ∨ k = 6 ∨ k = 8 → kV n st u y) (h6 : k = 6 ∨ k = 8 → kAG σ n y) (h7 : k = 7 → kAG σ n x) (hgx : kGd σ x) (hgy : k = 4 ∨ k = 5 ∨ k = 6 ∨ k = 8 → kGd σ y) (hdx : kDp σ x ≤ 46) (hdy : k = 4 ∨ k = 5 ∨ k = 6 ∨ k = 8 → kDp σ y ≤ 46) (hsl : sl < 256) (hs : cSl (nI k) a c = nI sl)
    (hz : z = 1 + σ 5 x + (if k = 7 ∨ k = 9 then 0 else σ 5 y)) (hno : ∀ t, kV n st u t → 3 < fN (σ 2 t) → ¬ cIs σ t (nI k) a c) : iE (fpS σ K (st + u) sl (nI k) a c z u) K st n (u + 1) m l ∧ cCn (fpS σ K (st + u) sl (nI k) a c z u) n ∧ iX σ (fpS σ K (st + u) sl (nI k) a c z u) K st n u (u + 1) := by
  have hb := isK_b h.1
  have hk9 : k ≤ 9 := by rcases hw with q | q | q <;> omega
  have eK : fpS σ K (st + u) sl (nI k) a c z u K = upd (σ K) 3 (nI (u + 1)) := up_eq
  have eH : fpS σ K (st + u) sl (nI k) a c z u (K + 1) = upd (σ (K + 1)) sl (nI (st + u)) := by
    unfold fpS
    rw [up_ne (by omega), up_eq]
  have e2 : fpS σ K (st + u) sl (nI k) a c z u 2 = upd (σ 2) (st + u) (nI k) := by
    unfold fpS
    rw [up_ne (by omega), up_ne (by omega)]
    rfl
  have e3 : fpS σ K (st + u) sl (nI k) a c z u 3 = upd (σ 3) (st + u) a := by
    unfold fpS
    rw [up_ne (by omega), up_ne (by omega)]
    rfl
  have e4 : fpS σ K (st + u) sl (nI k) a c z u 4 = upd (σ 4) (st + u) c := by
    unfold fpS
    rw [up_ne (by omega), up_ne (by omega)]
    rfl
  have e5 : fpS σ K (st + u) sl (nI k) a c z u 5 = upd (σ 5) (st + u) z := by
    unfold fpS
    rw [up_ne (by omega), up_ne (by omega)]
    rfl
  have e6 : fpS σ K (st + u) sl (nI k) a c z u 6 = upd (σ 6) (st + u) (σ (K + 1) sl) := by
    unfold fpS
    rw [up_ne (by omega), up_ne (by omega)]
    rfl
  have eo : ∀ e, e ≠ K → e ≠ K + 1 → e ≠ 2 → e ≠ 3 → e ≠ 4 → e ≠ 5 → e ≠ 6 → fpS σ K (st + u) sl (nI k) a c z u e = σ e := fun e a0 a1 a2 a3 a4 a5 a6 => by
    unfold fpS
    rw [up_ne a0, up_ne a1, up_ne a6, up_ne a5, up_ne a4, up_ne a3, up_ne a2]
  generalize fpS σ K (st + u) sl (nI k) a c z u = τ at *
  have hF : nF σ τ K st := by
    refine ⟨fun c a1 a2 a3 a4 a5 a6 => eo c (by omega) (by omega) a2 a3 a4 a5 a6, fun j hj => ?_⟩
    rw [e2, e3, e4, e6, pk_un (by omega), pk_un (by omega), pk_un (by omega), pk_un (by omega)]
    exact ⟨rfl, rfl, rfl, rfl⟩
  obtain ⟨h1, h2, h3, h4, h5, hM, hm, hR, hD, hQ⟩ := id h
  have hlt : ∀ t, kV n st u t → t < st + u := fun t ht => by unfold kV at ht; omega
  have hX : iX σ τ K st n u (u + 1) := by
    refine ⟨by omega, ⟨hF, fun j hj => ?_⟩, fun t ht => ?_, ?_⟩
    · rw [e5, pk_un (by omega)]
    · have := hlt t ht
      rw [e2, e3, e4, pk_un (by omega), pk_un (by omega), pk_un (by omega)]
      exact ⟨rfl, rfl, rfl⟩
    · rw [eK]
      exact pk_un (by decide)
  have hVe : ∀ t, (kV n st u t ∨ t = st + u) ↔ kV n st (u + 1) t := fun t => by unfold kV; omega
  have hVf : (fun t => kV n st u t ∨ t = st + u) = kV n st (u + 1) := funext fun t => propext (hVe t)
  have hAGe : kAG τ n = kAG σ n := by
    funext t
    unfold kAG
    refine propext (and_congr_right (fun ht => ?_))
    rw [e2, pk_un (by omega), eo 11 (by omega) (by omega) (by decide) (by decide) (by decide) (by decide) (by decide)]
  have hcn : ∀ t, t < n → τ 2 t = σ 2 t ∧ τ 3 t = σ 3 t ∧ τ 4 t = σ 4 t := fun t ht => hX.2.2.1 t (Or.inl ht)
  have hV := iE_V h
  have hxl := (hV x hx).1
  have hn9 : tOk (kV n st u) (kAG σ n) (upd (σ 2) (st + u) (nI k)) (upd (σ 3) (st + u) a) (upd (σ 4) (st + u) c) (st + u) := tOk_new hw (fun _ => hx) hy h6 h7
  have hV2 := tb_valid hV hlt (show st + u < 100000 by omega) (fun _ q => q) hn9
  have hsz : z = nI (tsz (upd (σ 2) (st + u) (nI k)) (upd (σ 3) (st + u) a) (upd (σ 4) (st + u) c) (st + u)) := by
    unfold tsz
    rw [tA_new (lf := fun _ => 1) (nd := fun _ a b => 1 + a + b.getD 0) hV hlt (by omega) (fun _ q => q) (fun _ _ => rfl) hw (fun _ => hx) hy h6 h7]
    have zx := h5.2.2.2.1.2.1 x hx
    unfold tNd
    rw [hz, zx]
    rcases hw with q | q | q
    · omega
    · have zy := h5.2.2.2.1.2.1 y (hy q.1)
      rw [if_neg (by omega), zy, if_neg (by omega), if_neg (by omega)]
      show nI 1 + nI _ + nI _ = _
      rw [nI_add, nI_add]
      rfl
    · rw [if_pos (by omega), if_neg (by omega), if_pos (by omega)]
      show nI 1 + nI _ + nI 0 = _
      rw [nI_add, nI_add]
      rfl
  have hW2 : tbW (kV n st (u + 1)) (kAG τ n) (τ 2) (τ 3) (τ 4) (τ 5) := by
    rw [e2, e3, e4, e5, hAGe, hsz, ← hVf]
    exact tb_push h5.2.2.2.1 hlt (by omega) (fun _ q => q) hn9 (fun q t ht e => hno t ht (by rw [e.1]; exact q) e)
  have hgn : kGd τ (st + u) ∧ kDp τ (st + u) ≤ 47 := by
    unfold kGd kDp tgd tdp
    rw [e2, e3, e4]
    rw [tA_new (lf := fun t => decide (σ 2 t ≠ nI 3)) (nd := fun _ a b => a && b.getD true) hV hlt (by omega) (fun _ q => q) (fun t ht => by have := hlt t ht; rw [pk_un (by omega)]) hw (fun _ => hx) hy h6 h7, tA_new (lf := fun _ => 0) (nd := fun _ a b => 1 + max a (b.getD 0)) hV hlt (by omega) (fun _ q => q) (fun _ _ => rfl) hw (fun _ => hx) hy h6 h7]
    unfold tNd
    unfold kGd tgd at hgx hgy
    unfold kDp tdp at hdx hdy
    rcases hw with q | q | q
    · omega
    · have := hgy q.1
      have := hdy q.1
      rw [if_neg (by omega), if_neg (by omega), if_neg (by omega), if_neg (by omega)]
      refine ⟨?_, ?_⟩
      · simp only [Option.getD_some, hgx, hgy q.1, Bool.and_true]
      · simp only [Option.getD_some]
        omega
    · rw [if_neg (by omega), if_pos (by omega), if_neg (by omega), if_pos (by omega)]
      refine ⟨?_, ?_⟩
      · simp only [Option.getD_none, hgx, Bool.and_true]
      · simp only [Option.getD_none]
        omega
  have hcp : ∀ t, kV n st u t → cpt τ t = cpt σ t := fun t ht => by
    obtain ⟨q1, q2, q3⟩ := hX.2.2.1 t ht
    unfold cpt
    rw [q1, q2, q3]
  have hcpn : cpt τ (st + u) = sl := by
    unfold cpt
    rw [e2, e3, e4, pk_us, pk_us, pk_us, hs]
    exact fN_nI (by omega)
  have hch : hcP 256 1928 (fun g => st ≤ g ∧ g < st + (u + 1)) (cpt τ) (τ (K + 1)) (τ 6) := by
    have g1 : hcP 256 1928 (fun g => st ≤ g ∧ g < st + u) (cpt τ) (σ (K + 1)) (σ 6) := hcP_congr (fun _ => Iff.rfl) (fun t ht => (hcp t (Or.inr ht)).symm) h5.2.2.2.2.2
    have g2 := hcP_push (t := st + u) g1 (fun t' ht' => ht'.2) (by omega) (by rw [hcpn]; exact hsl)
    rw [hcpn] at g2
    rw [eH, e6]
    exact hcP_congr (fun t => by omega) (fun _ _ => rfl) g2
  have hTb : kTb τ K st n (u + 1) := by
    refine ⟨by omega, by rw [eK]; exact pk_us, by rw [eK, pk_un (by decide)]; exact h5.2.2.1, hW2, fun g g1 g2 => ?_, hch⟩
    by_cases e : g = st + u
    · subst e
      refine ⟨?_, hgn.1, hgn.2⟩
      rw [e2, pk_us, fN_nI (by omega)]
      exact hk
    · obtain ⟨q1, q2, q3⟩ := h5.2.2.2.2.1 g g1 (by omega)
      have hgv : kV n st u g := Or.inr ⟨g1, by omega⟩
      refine ⟨by rw [(hX.2.2.1 g hgv).1]; exact q1, (iX_kGd h hX hgv).mpr q2, ?_⟩
      have := iX_kDp h hX hgv
      unfold kDp at this
      rw [this]
      exact q3
  have ec : ∀ e, K + 2 ≤ e → e < K + 9 → τ e = σ e := fun e a1 a2 => eo e (by omega) (by omega) (by omega) (by omega) (by omega) (by omega) (by omega)
  have er : ∀ e, 7 ≤ e → e < 13 → τ e = σ e := fun e a1 a2 => hF.1 e (by omega) (by omega) (by omega) (by omega) (by omega) (by omega)
  have eh : ∀ e, 222 ≤ e → τ e = σ e := fun e a1 => hF.1 e (by omega) (by omega) (by omega) (by omega) (by omega) (by omega)
  have hmk : ∀ g, kV n st u g → kMk τ l g = kMk σ l g := fun g hg => by
    have hin : kIn τ l = kIn σ l := by
      funext q
      refine propext ⟨fun ⟨t, t1, t2⟩ => ⟨t, t1, ?_⟩, fun ⟨t, t1, t2⟩ => ⟨t, t1, ?_⟩⟩
      · rw [← iX_kTv h hX (iE_l h t1).1]
        exact t2
      · rw [iX_kTv h hX (iE_l h t1).1]
        exact t2
    have hA : mA τ = mA σ := by
      funext t
      unfold mA
      rw [eh 233 (by decide)]
    unfold kMk
    rw [hin, hA, iX_kTv h hX hg, eh 238 (by decide)]
  refine ⟨⟨h1, h2, ?_, fun t ht => ?_, hTb, ?_, hm, ?_, fun t ht => ?_, fun g g1 g2 => ?_⟩, ?_, hX⟩
  · rw [hF.1 1 (by omega) (by decide) (by decide) (by decide) (by decide) (by decide)]
    exact h3
  · have := h4 t ht
    obtain ⟨q1, q2, q3⟩ := hcn t ht
    unfold aT1 at this ⊢
    rw [q1, q2, q3, hX.2.1.2 t (by omega), hF.1 8 (by omega) (by decide) (by decide) (by decide) (by decide) (by decide), hF.1 9 (by omega) (by decide) (by decide) (by decide) (by decide) (by decide), hF.1 10 (by omega) (by decide) (by decide) (by decide) (by decide) (by decide), hF.1 11 (by omega) (by decide) (by decide) (by decide) (by decide) (by decide), hF.1 12 (by omega) (by decide) (by decide) (by decide) (by decide) (by decide), eh 233 (by decide), eh 234 (by decide), eh 235 (by decide), eh 236 (by decide), eh 237 (by decide), eh 238 (by decide), eh 239 (by decide), eh 240 (by decide), eh 241 (by decide)]
    exact this
  · unfold kMs at hM ⊢
    rw [eK, ec (K + 5) (by omega) (by omega), ec (K + 6) (by omega) (by omega), ec (K + 7) (by omega) (by omega), pk_un (by decide)]
    exact hM
  · obtain ⟨r1, r2, r3, r4, r5, r6, r7, r8⟩ := hR
    have hnw : ¬ kV n st u (st + u) := fun z => by have := hlt _ z; omega
    have hqn := hQ (st + u) (by omega) hnw
    refine ⟨by rw [eK, pk_un (by decide)]; exact r1, fun i hi => ?_, fun t ht => ?_, r4, fun g hg => ?_, fun b hb' => ?_, fun t ht => ?_, fun g hg hgd => ?_⟩
    · rw [ec (K + 2) (by omega) (by omega), ec (K + 3) (by omega) (by omega), ec (K + 4) (by omega) (by omega)]
      exact r2 i hi
    · exact ⟨kV_up (by omega) (r3 t ht).1, (iX_kGd h hX (r3 t ht).1).mpr (r3 t ht).2⟩
    · rw [ec (K + 5) (by omega) (by omega)]
      rcases (hVe g).mpr hg with q | rfl
      · exact r5 g q
      · exact ⟨fun q => absurd q hqn.1, fun q => absurd (r3 _ q).1 hnw⟩
    · rw [ec (K + 7) (by omega) (by omega), r6 b hb']
      refine ⟨fun ⟨t, t1, t2, t3⟩ => ⟨t, t1, ?_, ?_⟩, fun ⟨t, t1, t2, t3⟩ => ⟨t, t1, ?_, ?_⟩⟩
      · rw [(hX.2.2.1 t (r3 t t1).1).1]
        exact t2
      · rw [(hX.2.2.1 t (r3 t t1).1).2.1]
        exact t3
      · rw [← (hX.2.2.1 t (r3 t t1).1).1]
        exact t2
      · rw [← (hX.2.2.1 t (r3 t t1).1).2.1]
        exact t3
    · rw [ec (K + 6) (by omega) (by omega)]
      exact r7 t ht
    · rw [ec (K + 6) (by omega) (by omega), eK, pk_un (show 13 ≠ 3 by decide)]
      rcases (hVe g).mpr hg with q | rfl
      · rw [hmk g q]
        exact r8 g q ((iX_kGd h hX q).mp hgd)
      · exact ⟨fun q => absurd q hqn.2.1, fun q => absurd q hqn.2.2⟩
  · rw [iX_kDp h hX (Or.inl ht)]
    exact hD t ht
  · rw [ec (K + 5) (by omega) (by omega), ec (K + 6) (by omega) (by omega)]
    exact hQ g g1 (fun z => g2 (kV_up (by omega) z))
  · unfold cCn
    have g1 : hcP 256 1928 (fun t => t < n ∧ 3 < fN (τ 2 t)) (cpt τ) (σ 7) (σ 6) := hcP_congr (fun t => ⟨fun q => ⟨q.1, by rw [(hcn t q.1).1]; exact q.2⟩, fun q => ⟨q.1, by rw [← (hcn t q.1).1]; exact q.2⟩⟩) (fun t ht => (hcp t (Or.inl ht.1)).symm) hC
    rw [er 7 (by decide) (by decide), e6]
    refine ⟨g1.1, fun t ht => ?_⟩
    rw [pk_un (by omega)]
    exact g1.2 t ht
