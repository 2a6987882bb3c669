/-! alike: what stays -/
theorem fl_mem {P : Nat → Prop} {x : Nat} : ∀ {l : List Nat}, x ∈ fl P l ↔ x ∈ l ∧ P x
  | [] => ⟨fun h => (by cases h), fun h => (by cases h.1)⟩
  | y :: l => by
    unfold fl
    by_cases h : P y
    · rw [cit_T h, List.mem_cons, fl_mem (l := l), List.mem_cons]
      constructor
      · rintro (rfl | q)
        · exact ⟨Or.inl rfl, h⟩
        · exact ⟨Or.inr q.1, q.2⟩
      · rintro ⟨rfl | q, q2⟩
        · exact Or.inl rfl
        · exact Or.inr ⟨q, q2⟩
    · rw [cit_F h, fl_mem (l := l), List.mem_cons]
      constructor
      · rintro ⟨q, q2⟩
        exact ⟨Or.inr q, q2⟩
      · rintro ⟨rfl | q, q2⟩
        · exact absurd q2 h
        · exact ⟨q, q2⟩
theorem cit_iff {α : Type} {P Q : Prop} {a b : α} (h : P ↔ Q) : cit P a b = cit Q a b := by
  by_cases hp : P
  · rw [cit_T hp, cit_T (h.mp hp)]
  · rw [cit_F hp, cit_F (fun q => hp (h.mpr q))]
theorem fl_congr {P Q : Nat → Prop} : ∀ {l : List Nat}, (∀ x ∈ l, P x ↔ Q x) → fl P l = fl Q l
  | [], _ => rfl
  | y :: l, h => by
    unfold fl
    rw [fl_congr (l := l) (fun x hx => h x (List.mem_cons_of_mem _ hx)), cit_iff (h y List.mem_cons_self)]
theorem fl_nd {P : Nat → Prop} : ∀ {l : List Nat}, l.Pairwise (fun x y => x ≠ y) → (fl P l).Pairwise (fun x y => x ≠ y)
  | [], _ => List.Pairwise.nil
  | y :: l, h => by
    unfold fl
    obtain ⟨h1, h2⟩ := List.pairwise_cons.mp h
    by_cases hp : P y
    · rw [cit_T hp]
      exact List.pairwise_cons.mpr ⟨fun x hx => h1 x (fl_mem.mp hx).1, fl_nd h2⟩
    · rw [cit_F hp]
      exact fl_nd h2
/-- the role r, and the first n TERMS, are as they were on both sides -/
def fR (σ ω : kS) (r n : Nat) : Prop := roO σ ω r ∧ (∀ u, u < n → ω 233 u = σ 233 u ∧ ω 234 u = σ 234 u ∧ ω 235 u = σ 235 u ∧ ω 240 u = σ 240 u ∧ ω 241 u = σ 241 u) ∧ ∀ c, 23 + 35 * r ≤ c → c < 58 + 35 * r → ω c = σ c
theorem fT_all {σ ω : kS} {n b t : Nat} (h : mTb σ n b) (hF : ∀ u, u < n → ω 233 u = σ 233 u ∧ ω 234 u = σ 234 u ∧ ω 235 u = σ 235 u) (ht : t < n) : tvl (ω 233) (ω 234) (ω 235) t = tvl (σ 233) (σ 234) (σ 235) t ∧ tgd (ω 233) (ω 234) (ω 235) t = tgd (σ 233) (σ 234) (σ 235) t ∧ tvs (ω 233) (ω 234) (ω 235) t = tvs (σ 233) (σ 234) (σ 235) t := by
  refine ⟨tA_congr (mTb_num h) (fun u hu => ⟨(hF u hu).1, (hF u hu).2.1, (hF u hu).2.2, rfl⟩) t ht, tA_congr (mTb_num h) (fun u hu => ⟨(hF u hu).1, (hF u hu).2.1, (hF u hu).2.2, by rw [(hF u hu).1]⟩) t ht, tA_congr (mTb_num h) (fun u hu => ⟨(hF u hu).1, (hF u hu).2.1, (hF u hu).2.2, by rw [(hF u hu).1]⟩) t ht⟩
theorem fR_all {σ ω : kS} {n b r t : Nat} (h : mTb σ n b) (hF : fR σ ω r n) (ht : t < n) : tvl (ω 233) (ω 234) (ω 235) t = tvl (σ 233) (σ 234) (σ 235) t ∧ tgd (ω 233) (ω 234) (ω 235) t = tgd (σ 233) (σ 234) (σ 235) t ∧ tvs (ω 233) (ω 234) (ω 235) t = tvs (σ 233) (σ 234) (σ 235) t :=
  fT_all h (fun u hu => ⟨(hF.2.1 u hu).1, (hF.2.1 u hu).2.1, (hF.2.1 u hu).2.2.1⟩) ht
theorem fR_bdv {σ ω : kS} {n b R r dn k : Nat} (h : mTb σ n b) (hR : mRo σ n R) (hF : fR σ ω r n) (hr : r < R) (hdn : dn ≤ fN (σ 247 r)) : bdv ω r dn k ↔ bdv σ r dn k := by
  have hn := h.1
  obtain ⟨⟨v, v1, v2⟩, ev, ev1, ev2⟩ := hR.2.2.1 r hr
  have hv6 : fN (σ 244 r) ≤ 6 := by rw [v2, fN_nI (by omega)]; exact v1
  have he6 : fN (σ 247 r) ≤ 6 := by rw [ev2, fN_nI (by omega)]; exact ev1
  unfold bdv
  rw [hF.1.1]
  refine and_congr_right (fun hk => ?_)
  rw [(hF.1.2.2.2 k (by omega)).2.1, (hF.1.2.2.2 k (by omega)).1]
  refine or_congr_right (exists_congr (fun e => and_congr_right (fun he => ?_)))
  obtain ⟨t, t1, t2, -⟩ := hR.2.2.2.2.2 r e hr (by omega)
  rw [(hF.1.2.2.2 e (by omega)).2.2.2, (hF.1.2.2.2 e (by omega)).2.2.1, t2, fN_nI (by omega), (fR_all h hF t1).2.2]
theorem fR_bls {σ ω : kS} {n b R r e : Nat} (h : mTb σ n b) (hR : mRo σ n R) (hF : fR σ ω r n) (hr : r < R) (he : e < fN (σ 247 r)) : bls ω r e = bls σ r e := by
  have hn := h.1
  obtain ⟨-, ev, ev1, ev2⟩ := hR.2.2.1 r hr
  have he6 : fN (σ 247 r) ≤ 6 := by rw [ev2, fN_nI (by omega)]; exact ev1
  obtain ⟨t, t1, t2, -⟩ := hR.2.2.2.2.2 r e hr he
  unfold bls
  rw [(hF.1.2.2.2 e (by omega)).2.2.1, t2, fN_nI (by omega), (fR_all h hF t1).2.2]
  refine fl_congr (fun u hu => ?_)
  have hu2 := (ddl_mem _ _).mp hu
  have hun : u < n := by
    rcases hu2 with q | q
    · cases q
    · exact (tvs_mem (mTb_num h) t t1 u q).1
  rw [(hF.2.1 u hun).2.2.2.2]
  unfold nbv
  rw [fR_bdv h hR hF hr (by omega), fR_bdv h hR hF hr (by omega)]
theorem bls_lt {σ : kS} {n b R r e u : Nat} (h : mTb σ n b) (hR : mRo σ n R) (hr : r < R) (he : e < fN (σ 247 r)) (hu : u ∈ bls σ r e) : u < n ∧ σ 233 u = nI 3 := by
  have hn := h.1
  obtain ⟨t, t1, t2, -⟩ := hR.2.2.2.2.2 r e hr he
  unfold bls at hu
  rw [t2, fN_nI (by omega)] at hu
  rcases (ddl_mem _ _).mp (fl_mem.mp hu).1 with q | q
  · cases q
  · have := tvs_mem (mTb_num h) t t1 u q
    exact ⟨this.1, this.2.1⟩
theorem fR_aP {σ ω : kS} {n b r t a : Nat} {bl : List Nat} (h : mTb σ n b) (hF : fR σ ω r n) (ht : t < n) (ha : 23 + 35 * r ≤ a) (ha2 : a + 4 < 58 + 35 * r) (hp : aP σ a t bl) : aP ω a t bl := by
  obtain ⟨pl, p0, p1, p2, p3, p4, p5, p6⟩ := hp
  have e0 := hF.2.2 a ha (by omega)
  have e3 := hF.2.2 (a + 3) (by omega) (by omega)
  have e4 := hF.2.2 (a + 4) (by omega) (by omega)
  have hlt : ∀ i (hi : i < pl.length), (pl[i]'hi) < n := fun i hi => by
    have := (p4 _ (List.getElem_mem hi)).1
    omega
  refine ⟨pl, p0, by rw [e0]; exact p1, by rw [e3]; exact p2, p3, fun u hu => ⟨(p4 u hu).1, by rw [(fR_all h hF (show u < n by have := (p4 u hu).1; omega)).2.2, (fR_all h hF ht).2.2]; exact (p4 u hu).2⟩, fun i hi ho => ?_, fun j hj => ?_⟩
  · have hk := hF.2.1 _ (hlt i hi)
    unfold opn at ho
    rw [(fR_all h hF (hlt i hi)).2.1, hk.1] at ho
    rw [hk.2.1, hk.2.2.1]
    exact p5 i hi ho
  · obtain ⟨f, f1, f2, f3⟩ := p6 j hj
    refine ⟨f, f1, by rw [e4]; exact f2, fun i hi hif => ?_⟩
    rw [(fR_all h hF (hlt i hi)).2.2]
    exact f3 i hi hif
theorem fR_aE {σ ω : kS} {n b R r e : Nat} (h : mTb σ n b) (hR : mRo σ n R) (hF : fR σ ω r n) (hr : r < R) (he : e < fN (σ 247 r)) (hE : aE σ r e) : aE ω r e := by
  have hn := h.1
  obtain ⟨-, ev, ev1, ev2⟩ := hR.2.2.1 r hr
  have he6 : fN (σ 247 r) ≤ 6 := by rw [ev2, fN_nI (by omega)]; exact ev1
  obtain ⟨t, t1, t2, -⟩ := hR.2.2.2.2.2 r e hr he
  obtain ⟨h1, h2, h3, h4⟩ := hE
  have e0 := hF.2.2 (28 + 35 * r + 5 * e) (by omega) (by omega)
  have e1 := hF.2.2 (29 + 35 * r + 5 * e) (by omega) (by omega)
  have e2 := hF.2.2 (30 + 35 * r + 5 * e) (by omega) (by omega)
  unfold aE
  rw [(hF.1.2.2.2 e (by omega)).2.2.1, (hF.1.2.2.2 e (by omega)).2.2.2, fR_bls h hR hF hr he, e0, e1, e2]
  refine ⟨h1, h2, h3, fun q => ?_⟩
  obtain ⟨g1, g2, g3, g4⟩ := h4 q
  refine ⟨g1, g2, fun j hj => ?_, ?_⟩
  · have := hF.2.1 _ (bls_lt h hR hr he (List.getElem_mem hj)).1
    rw [this.2.2.2.2, this.2.2.2.1]
    exact g3 j hj
  · rw [t2, fN_nI (by omega)] at g4 ⊢
    exact fR_aP h hF t1 (by omega) (by omega) g4
theorem fR_aR1 {σ ω : kS} {n b R r : Nat} (h : mTb σ n b) (hR : mRo σ n R) (hF : fR σ ω r n) (hr : r < R) (hA : aR1 σ r) : aR1 ω r := by
  obtain ⟨⟨v, v1, v2⟩, ev, ev1, ev2⟩ := hR.2.2.1 r hr
  have hv6 : fN (σ 244 r) ≤ 6 := by rw [v2, fN_nI (by omega)]; exact v1
  have he6 : fN (σ 247 r) ≤ 6 := by rw [ev2, fN_nI (by omega)]; exact ev1
  obtain ⟨h1, h2, h3, h4, h5⟩ := hA
  have hn := h.1
  have e0 := hF.2.2 (23 + 35 * r) (by omega) (by omega)
  have e1 := hF.2.2 (24 + 35 * r) (by omega) (by omega)
  have e2 := hF.2.2 (25 + 35 * r) (by omega) (by omega)
  have e3 := hF.2.2 (26 + 35 * r) (by omega) (by omega)
  unfold aR1
  rw [e0, e1, e2, e3, hF.1.1, hF.1.2.1, hF.1.2.2.1]
  refine ⟨h1, h2, h3, fun k hk => ?_, fun e he => fR_aE h hR hF hr he (h5 e he)⟩
  obtain ⟨t, so, as, t1, t2, -⟩ := hR.2.2.2.1 r k hr hk
  obtain ⟨g1, g2, g3⟩ := h4 k hk
  rw [(hF.1.2.2.2 k (by omega)).2.1, (hF.1.2.2.2 k (by omega)).1]
  rw [t2, fN_nI (by omega)] at g2 ⊢
  rw [(hF.2.1 t t1).2.2.2.1, fR_bdv h hR hF hr (Nat.le_refl _)]
  exact ⟨g1, g2, g3⟩
/-- the session s, its role and the first n TERMS are as they were on both sides -/
def fS (σ ω : kS) (s n : Nat) : Prop := ω 255 s = σ 255 s ∧ (∀ k, k < 6 → ω 256 (6 * s + k) = σ 256 (6 * s + k)) ∧ roO σ ω (fN (σ 255 s)) ∧ (∀ u, u < n → ω 238 u = σ 238 u) ∧ ω 15 s = σ 15 s ∧ ω 16 s = σ 16 s ∧ ∀ k, k < 7 → ω 17 (7 * s + k) = σ 17 (7 * s + k)
theorem fS_aS1 {σ ω : kS} {n R S s : Nat} (hn : n ≤ 200) (hR : mRo σ n R) (hS : mSe σ n R S) (hs : s < S) (hF : fS σ ω s n) (hA : aS1 σ s) : aS1 ω s := by
  obtain ⟨f1, f2, f3, f4, f5, f6, f7⟩ := hF
  obtain ⟨r, r1, r2, -, r4⟩ := hS.2.2 s hs
  have hr : fN (σ 255 s) = r := by rw [r2, fN_nI (by have := hR.1; omega)]
  rw [hr] at f3
  obtain ⟨⟨v, v1, v2⟩, -⟩ := hR.2.2.1 r r1
  have hv6 : fN (σ 244 r) ≤ 6 := by rw [v2, fN_nI (by omega)]; exact v1
  obtain ⟨a1, a2, a3, a4⟩ := hA
  rw [hr] at a3
  unfold aS1
  rw [f1, hr, f3.1, f5, f6]
  refine ⟨a1, ?_, fun k hk => ?_, ?_⟩
  · have := f7 0 (by omega)
    rw [Nat.add_zero] at this
    rw [this]
    exact a2
  · have := f7 (1 + k) (by omega)
    rw [← Nat.add_assoc] at this
    rw [this, f2 k hk]
    exact a3 k hk
  · rw [a4]
    unfold hoF
    rw [f1, hr, f3.1]
    refine forall_congr' (fun k => ?_)
    refine imp_congr_right (fun hk => ?_)
    rw [(f3.2.2.2 k (by omega)).2.1, f2 k (by omega)]
    refine imp_congr_right (fun h0 => ?_)
    obtain ⟨as, q1, q2⟩ := r4 k hk
    rcases q2 with ⟨rfl, -⟩ | ⟨-, z, z1, z2, -⟩
    · rw [q1] at h0
      exact absurd h0 (by decide)
    · rw [z2, fN_nI (by omega), f4 z z1]
/-- the claim c is as it was on both sides -/
def fC (σ ω : kS) (c : Nat) : Prop := ω 257 c = σ 257 c ∧ ω 258 c = σ 258 c ∧ ω 259 c = σ 259 c ∧ ω 260 c = σ 260 c ∧ ω 261 c = σ 261 c ∧ (∀ i, i < 4 → ω 262 (4 * c + i) = σ 262 (4 * c + i) ∧ ω 263 (4 * c + i) = σ 263 (4 * c + i)) ∧ ∀ j, j < 3 → ω (163 + 3 * c + j) = σ (163 + 3 * c + j)
theorem fC_aC1 {σ ω : kS} {R C c : Nat} (hC : mCl σ R C) (hc : c < C) (hF : fC σ ω c) (hA : aC1 σ c) : aC1 ω c := by
  obtain ⟨f1, f2, f3, f4, f5, f6, f7⟩ := hF
  obtain ⟨b, a, nn, j, -, -, -, -, -, -, -, j1, j2, -⟩ := hC.2.2 c hc
  obtain ⟨a1, a2, a3, a4, a5, a6⟩ := hA
  have e0 := f7 0 (by omega)
  have e1 := f7 1 (by omega)
  have e2 := f7 2 (by omega)
  rw [show 163 + 3 * c + 1 = 164 + 3 * c by omega] at e1
  rw [show 163 + 3 * c + 2 = 165 + 3 * c by omega] at e2
  rw [Nat.add_zero] at e0
  unfold aC1
  rw [f1, f2, f3, f4, f5, e0, e1, e2]
  refine ⟨a1, a2, a3, a4, a5, fun i hi => ?_⟩
  have hi4 : i < 4 := by
    rw [j2, fN_nI (by omega)] at hi
    omega
  rw [(f6 i hi4).1, (f6 i hi4).2]
  exact a6 i hi
/-- marks stay -/
theorem kMs_eq {σ ω : kS} {K m : Nat} (e : ∀ c, K ≤ c → c < K + 9 → ω c = σ c) (h : kMs σ K m) : kMs ω K m := by
  unfold kMs
  rw [e K (by omega) (by omega), e (K + 5) (by omega) (by omega), e (K + 6) (by omega) (by omega), e (K + 7) (by omega) (by omega)]
  exact h
theorem aM_eq {σ ω : kS} {m m' : Nat} (hm : m ≤ m') (e : ∀ c, 186 ≤ c → c < 222 → ω c = σ c) (h : aM σ m) : aM ω m' := by
  obtain ⟨m1, m2, m3, a1, a2, a3, a4, a5, a6⟩ := h
  exact ⟨m1, m2, m3, by omega, by omega, by omega, kMs_eq (fun c c1 c2 => e c (by omega) (by omega)) a4, kMs_eq (fun c c1 c2 => e c (by omega) (by omega)) a5, kMs_eq (fun c c1 c2 => e c (by omega) (by omega)) a6⟩
/-- the intruder K stands as it did -/
theorem kOk_eq {σ ω : kS} {K st n : Nat} {tr : trT} (eT : ∀ c, 1 ≤ c → c < 13 → ω c = σ c) (eK : ∀ c, K ≤ c → c < K + 9 → ω c = σ c) (e1 : ∀ t, t < 200 → ω 233 t = σ 233 t) (e2 : ω 238 = σ 238) (h : kOk σ K st n tr) : kOk ω K st n tr := by
  obtain ⟨u, m, l, h1, h2, h3, h4, h5, h6, h7, h8⟩ := h
  have hA : mA ω = mA σ := funext (fun t => propext ⟨fun q => ⟨q.1, (e1 t q.1).symm.trans q.2⟩, fun q => ⟨q.1, (e1 t q.1).trans q.2⟩⟩)
  refine ⟨u, m, l, h1, h2, ?_, kMs_eq eK h4, ?_, ?_, by rw [eK K (by omega) (by omega)]; exact h7, fun g g1 g2 => by rw [eK (K + 5) (by omega) (by omega), eK (K + 6) (by omega) (by omega)]; exact h8 g g1 g2⟩
  · unfold kTb kAG cpt at h3 ⊢
    rw [eK K (by omega) (by omega), eK (K + 1) (by omega) (by omega), eT 2 (by decide) (by decide), eT 3 (by decide) (by decide), eT 4 (by decide) (by decide), eT 5 (by decide) (by decide), eT 11 (by decide) (by decide), eT 6 (by decide) (by decide)]
    exact h3
  · unfold kRw kMk kIn kTv at h5 ⊢
    rw [eK K (by omega) (by omega), eK (K + 2) (by omega) (by omega), eK (K + 3) (by omega) (by omega), eK (K + 4) (by omega) (by omega), eK (K + 5) (by omega) (by omega), eK (K + 6) (by omega) (by omega), eK (K + 7) (by omega) (by omega), eT 2 (by decide) (by decide), eT 3 (by decide) (by decide), eT 4 (by decide) (by decide), hA, e2]
    exact h5
  · unfold kTr kTv at h6 ⊢
    rw [eT 2 (by decide) (by decide), eT 3 (by decide) (by decide), eT 4 (by decide) (by decide)]
    exact h6
