/-! the reference: the STATES of a search -/
def srX : List Nat := [264, 265, 284, 285, 286, 287, 292, 293]
def srJ : List Nat := [69, 70, 71]
/-- nothing has changed but what a search is made of -/
def mSf (σ τ : kS) (n : Nat) : Prop := (∀ c, c ∉ rowC → c ∉ srX → τ c = σ c) ∧ (∀ j, j ∉ rowJ → j ∉ srJ → τ 232 j = σ 232 j) ∧ ∀ u, u < 200 → τ 233 u = σ 233 u ∧ τ 234 u = σ 234 u ∧ τ 235 u = σ 235 u
theorem mSf_fr {σ τ : kS} {n : Nat} (h : mFr σ τ n) : mSf σ τ n := ⟨fun c hc _ => h.1 c hc, fun j hj _ => h.2.1 j hj, h.2.2⟩
theorem mSf_refl (σ : kS) (n : Nat) : mSf σ σ n := mSf_fr (mFr_refl σ n)
theorem mSf_trans {σ τ ρ : kS} {n : Nat} (h1 : mSf σ τ n) (h2 : mSf τ ρ n) : mSf σ ρ n :=
  ⟨fun c hc hx => (h2.1 c hc hx).trans (h1.1 c hc hx), fun j hj hx => (h2.2.1 j hj hx).trans (h1.2.1 j hj hx), fun u hu => ⟨(h2.2.2 u hu).1.trans (h1.2.2 u hu).1, (h2.2.2 u hu).2.1.trans (h1.2.2 u hu).2.1, (h2.2.2 u hu).2.2.trans (h1.2.2 u hu).2.2⟩⟩
theorem mSf_up {σ : kS} {n c : Nat} {f : Nat → Int32} (hc : c ∈ srX) : mSf σ (va_up σ c f) n := by
  refine ⟨fun e h1 h2 => ?_, fun j hj _ => ?_, fun u hu => ?_⟩
  · show va_up σ c f e = σ e
    unfold va_up
    rw [if_neg (fun q : e = c => h2 (by rw [q]; exact hc))]
  · have : (232 : Nat) ≠ c := fun q => by subst q; revert hc; decide
    show va_up σ c f 232 j = _
    unfold va_up
    rw [if_neg this]
  · have h1 : (233 : Nat) ≠ c := fun q => by subst q; revert hc; decide
    have h2 : (234 : Nat) ≠ c := fun q => by subst q; revert hc; decide
    have h3 : (235 : Nat) ≠ c := fun q => by subst q; revert hc; decide
    refine ⟨?_, ?_, ?_⟩
    · show va_up σ c f 233 u = _
      unfold va_up
      rw [if_neg h1]
    · show va_up σ c f 234 u = _
      unfold va_up
      rw [if_neg h2]
    · show va_up σ c f 235 u = _
      unfold va_up
      rw [if_neg h3]
theorem mSf_o {σ : kS} {n j : Nat} {x : Int32} (hj : j ∈ srJ) : mSf σ (va_up σ 232 (upd (σ 232) j x)) n := by
  refine ⟨fun e h1 h2 => ?_, fun i hi hx => ?_, fun u hu => ⟨rfl, rfl, rfl⟩⟩
  · have : e ≠ 232 := fun q => by subst q; revert h1; decide
    show va_up σ 232 _ e = σ e
    unfold va_up
    rw [if_neg this]
  · exact pk_un (fun q => hx (q ▸ hj))
def pat (σ τ : kS) : kS := fun c => if c ∈ srX then σ c else if c = 232 then (fun j => if j ∈ srJ then σ 232 j else τ 232 j) else τ c
theorem pat_fr {σ τ : kS} {n : Nat} (h : mSf σ τ n) : mFr σ (pat σ τ) n := by
  refine ⟨fun c hc => ?_, fun j hj => ?_, fun u hu => h.2.2 u hu⟩
  · unfold pat
    split
    · rfl
    · next hx =>
      have : c ≠ 232 := fun q => by subst q; revert hc; decide
      rw [if_neg this]
      exact h.1 c hc hx
  · show (if j ∈ srJ then σ 232 j else τ 232 j) = σ 232 j
    split
    · rfl
    · next hx => exact h.2.1 j hj hx
theorem mSf_Ro {σ τ : kS} {n b R : Nat} (h : mTb σ n b) (hF : mSf σ τ n) (hR : mRo σ n R) : mRo τ n R := by
  have := mFr_Ro (τ := pat σ τ) h (pat_fr hF) hR
  exact this
theorem mSf_Se {σ τ : kS} {n b R S : Nat} (h : mTb σ n b) (hF : mSf σ τ n) (hS : mSe σ n R S) : mSe τ n R S := by
  have := mFr_Se (τ := pat σ τ) h (pat_fr hF) hS
  exact this
theorem mSf_Kn {σ τ : kS} {n b : Nat} {kl : List Nat} (h : mTb σ n b) (hF : mSf σ τ n) (hK : mKn σ n kl) : mKn τ n kl := by
  have := mFr_Kn (τ := pat σ τ) h (pat_fr hF) hK
  exact this
theorem mSf_Cl {σ τ : kS} {n R C : Nat} (hF : mSf σ τ n) (hC : mCl σ R C) : mCl τ R C := by
  have := mFr_Cl (τ := pat σ τ) (pat_fr hF) hC
  exact this
theorem mSf_bdv {σ τ : kS} {n b R r dn k : Nat} (h : mTb σ n b) (hR : mRo σ n R) (hF : mSf σ τ n) (hr : r < R) (hdn : dn ≤ fN (σ 247 r)) : bdv τ r dn k ↔ bdv σ r dn k := by
  have := mFr_bdv (τ := pat σ τ) (k := k) h hR (pat_fr hF) hr hdn
  exact this
theorem mSf_Vz {σ τ : kS} {n b r k : Nat} {x : Int32} (h : mTb σ n b) (hF : mSf σ τ n) (hz : mVz σ n r k x) : mVz τ n r k x := by
  have := mFr_Vz (τ := pat σ τ) h (pat_fr hF) hz
  exact this
/-- what stays in a search -/
def mBs (σ : kS) (n R S C : Nat) (kl : List Nat) : Prop := mRo σ n R ∧ mSe σ n R S ∧ mKn σ n kl ∧ mCl σ R C
theorem mBs_sf {σ τ : kS} {n b R S C : Nat} {kl : List Nat} (h : mTb σ n b) (hF : mSf σ τ n) (hB : mBs σ n R S C kl) : mBs τ n R S C kl := ⟨mSf_Ro h hF hB.1, mSf_Se h hF hB.2.1, mSf_Kn h hF hB.2.2.1, mSf_Cl hF hB.2.2.2⟩
/-- D and V tell where the SESSIONS stand -/
def cfg (σ : kS) (n R S : Nat) (D V : Nat → Int32) : Prop := ∀ s, s < S → ∃ r dn, r < R ∧ σ 255 s = nI r ∧ D s = nI dn ∧ dn ≤ fN (σ 247 r) ∧ ∀ k, k < 6 → (bdv σ r dn k → mVz σ n r k (V (6 * s + k)) ∧ (σ 246 (6 * r + k) ≠ nI 2 → V (6 * s + k) = σ 256 (6 * s + k))) ∧ (¬ bdv σ r dn k → V (6 * s + k) = -6)
theorem cfg_ext {σ : kS} {n R S : Nat} {D V D' V' : Nat → Int32} (h1 : ∀ s, s < S → D' s = D s) (h2 : ∀ s k, s < S → k < 6 → V' (6 * s + k) = V (6 * s + k)) (h : cfg σ n R S D V) : cfg σ n R S D' V' := by
  intro s hs
  obtain ⟨r, dn, a1, a2, a3, a4, a5⟩ := h s hs
  refine ⟨r, dn, a1, a2, (h1 s hs).trans a3, a4, fun k hk => ?_⟩
  rw [h2 s k hs hk]
  exact a5 k hk
theorem cfg_sf {σ τ : kS} {n b R S : Nat} {D V : Nat → Int32} (h : mTb σ n b) (hR : mRo σ n R) (hF : mSf σ τ n) (hc : cfg σ n R S D V) : cfg τ n R S D V := by
  intro s hs
  obtain ⟨r, dn, a1, a2, a3, a4, a5⟩ := hc s hs
  refine ⟨r, dn, a1, (by rw [hF.1 255 (by decide) (by decide)]; exact a2), a3, (by rw [hF.1 247 (by decide) (by decide)]; exact a4), fun k hk => ?_⟩
  rw [mSf_bdv h hR hF a1 a4, hF.1 246 (by decide) (by decide), hF.1 256 (by decide) (by decide)]
  exact ⟨fun q => ⟨mSf_Vz h hF ((a5 k hk).1 q).1, ((a5 k hk).1 q).2⟩, (a5 k hk).2⟩
theorem cfg_Sv {σ : kS} {n b R S : Nat} (h : mTb σ n b) (hR : mRo σ n R) (hS : mSe σ n R S) (hc : cfg σ n R S (σ 264) (σ 265)) : mSv σ n R S := by
  refine ⟨hS.2.1, fun s hs => ?_⟩
  obtain ⟨r, dn, a1, a2, a3, a4, a5⟩ := hc s hs
  obtain ⟨-, e, e1, e2⟩ := hR.2.2.1 r a1
  have he : fN (σ 247 r) ≤ 6 := by rw [e2, fN_nI (by omega)]; exact e1
  rw [a3, fN_nI (by omega)]
  exact mSn_of h hR a1 a2 a3 a4 (fun k hk => ⟨fun q => ((a5 k hk).1 q).1, (a5 k hk).2⟩)
/-- one EVENT of the session m -/
def stp (S : Nat) (D V D' V' : Nat → Int32) (m : Nat) : Prop := m < S ∧ ∀ s, s < S → (s ≠ m → D' s = D s ∧ ∀ k, k < 6 → V' (6 * s + k) = V (6 * s + k)) ∧ (s = m → D' s = D s + 1 ∧ ∀ k, k < 6 → V (6 * s + k) ≠ -6 → V' (6 * s + k) = V (6 * s + k))
theorem stp_ext {S m : Nat} {D V D' V' E W E' W' : Nat → Int32} (h1 : ∀ s, s < S → E s = D s) (h2 : ∀ s k, s < S → k < 6 → W (6 * s + k) = V (6 * s + k)) (h3 : ∀ s, s < S → E' s = D' s) (h4 : ∀ s k, s < S → k < 6 → W' (6 * s + k) = V' (6 * s + k)) (h : stp S D V D' V' m) : stp S E W E' W' m := by
  refine ⟨h.1, fun s hs => ⟨fun q => ⟨?_, fun k hk => ?_⟩, fun q => ⟨?_, fun k hk hv => ?_⟩⟩⟩
  · rw [h3 s hs, h1 s hs]; exact ((h.2 s hs).1 q).1
  · rw [h4 s k hs hk, h2 s k hs hk]; exact ((h.2 s hs).1 q).2 k hk
  · rw [h3 s hs, h1 s hs]; exact ((h.2 s hs).2 q).1
  · rw [h2 s k hs hk] at hv ⊢
    rw [h4 s k hs hk]; exact ((h.2 s hs).2 q).2 k hk hv
def stD (σ : kS) (i : Nat) : Nat → Int32 := fun s => σ 284 (4 * i + s)
def stV (σ : kS) (i : Nat) : Nat → Int32 := fun j => σ 285 (24 * i + j)
/-- N STATES are noted -/
def mSs (σ : kS) (n R S N : Nat) : Prop := N ≤ 600 ∧ σ 232 69 = nI N ∧ ∀ i, i < N → cfg σ n R S (stD σ i) (stV σ i) ∧ (i = 0 → ∀ s, s < S → stD σ i s = 0) ∧ (0 < i → ∃ j m, j < i ∧ σ 286 i = nI j ∧ σ 287 i = nI m ∧ stp S (stD σ j) (stV σ j) (stD σ i) (stV σ i) m)
theorem mSs_sf {σ τ : kS} {n b R S N : Nat} (h : mTb σ n b) (hR : mRo σ n R) (hF : mSf σ τ n) (e1 : τ 284 = σ 284) (e2 : τ 285 = σ 285) (e3 : τ 286 = σ 286) (e4 : τ 287 = σ 287) (e5 : τ 232 69 = σ 232 69) (hS : mSs σ n R S N) : mSs τ n R S N := by
  obtain ⟨h1, h2, h3⟩ := hS
  refine ⟨h1, e5.trans h2, fun i hi => ?_⟩
  obtain ⟨g1, g2, g3⟩ := h3 i hi
  have d : ∀ i, stD τ i = stD σ i := fun i => by unfold stD; rw [e1]
  have v : ∀ i, stV τ i = stV σ i := fun i => by unfold stV; rw [e2]
  rw [d, v]
  refine ⟨cfg_sf h hR hF g1, g2, fun q => ?_⟩
  obtain ⟨j, m, a1, a2, a3, a4⟩ := g3 q
  refine ⟨j, m, a1, by rw [e3]; exact a2, by rw [e4]; exact a3, ?_⟩
  rw [d, v]
  exact a4
theorem mSs_fr {σ τ : kS} {n b R S N : Nat} (h : mTb σ n b) (hR : mRo σ n R) (hF : mFr σ τ n) (hS : mSs σ n R S N) : mSs τ n R S N := mSs_sf h hR (mSf_fr hF) (hF.1 _ (by decide)) (hF.1 _ (by decide)) (hF.1 _ (by decide)) (hF.1 _ (by decide)) (hF.2.1 _ (by decide)) hS
