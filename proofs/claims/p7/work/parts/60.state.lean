/-! the reference's state: ROLES, SESSIONS, where these stand -/
def mRo (σ : kS) (n R : Nat) : Prop := R ≤ 4 ∧ σ 232 13 = nI R ∧
  (∀ r, r < R → (∃ v, v ≤ 6 ∧ σ 244 r = nI v) ∧ ∃ e, e ≤ 6 ∧ σ 247 r = nI e) ∧
  (∀ r k, r < R → k < fN (σ 244 r) → ∃ t so as, t < n ∧ σ 245 (6 * r + k) = nI t ∧ σ 233 t = nI 3 ∧ σ 239 t = nI r ∧ σ 241 t = nI k ∧ so ≤ 3 ∧ σ 240 t = nI so ∧ as ≤ 2 ∧ σ 246 (6 * r + k) = nI as ∧ (as = 0 → so = 0) ∧ (as = 1 → so = 1 ∨ so = 2)) ∧
  (∀ t, t < n → σ 233 t = nI 3 → ∃ r k, r < R ∧ k < fN (σ 244 r) ∧ σ 245 (6 * r + k) = nI t) ∧
  (∀ r e, r < R → e < fN (σ 247 r) → ∃ t, t < n ∧ σ 248 (6 * r + e) = nI t ∧ (∀ u ∈ tvs (σ 233) (σ 234) (σ 235) t, σ 239 u = nI r) ∧
    (σ 249 (6 * r + e) ≠ 0 → ∀ u ∈ tvs (σ 233) (σ 234) (σ 235) t, σ 246 (6 * r + fN (σ 241 u)) = nI 2 → ∃ e', e' < e ∧ σ 249 (6 * r + e') = 0 ∧ u ∈ tvs (σ 233) (σ 234) (σ 235) (fN (σ 248 (6 * r + e')))))
/-- VARIABLE k of the role r in the session s: it stands for nothing (one that is RECEIVED, or none), or for a GROUND TERM of its SORT -/
def mVk (σ : kS) (n r s k : Nat) : Prop := (σ 265 (6 * s + k) = -6 ∧ (k < fN (σ 244 r) → σ 246 (6 * r + k) = nI 2)) ∨ ∃ z, z < n ∧ σ 265 (6 * s + k) = nI z ∧ tgd (σ 233) (σ 234) (σ 235) z = true ∧ k < fN (σ 244 r) ∧ (σ 240 (fN (σ 245 (6 * r + k))) = nI 3 ∨ σ 240 (fN (σ 245 (6 * r + k))) = σ 233 z)
/-- where the session s stands: dn EVENTS done -/
def mSn (σ : kS) (n R s dn : Nat) : Prop := ∃ r, r < R ∧ σ 255 s = nI r ∧ σ 264 s = nI dn ∧ dn ≤ fN (σ 247 r) ∧ (∀ k, k < 6 → mVk σ n r s k) ∧ (∀ e, e < dn → mSt σ n s (fN (σ 248 (6 * r + e)))) ∧ ∀ k, k < fN (σ 244 r) → σ 246 (6 * r + k) = nI 2 → σ 265 (6 * s + k) ≠ -6 → ∃ e, e < dn ∧ σ 249 (6 * r + e) = 0 ∧ fN (σ 245 (6 * r + k)) ∈ tvs (σ 233) (σ 234) (σ 235) (fN (σ 248 (6 * r + e)))
/-- SESSIONS as they were made -/
def mSe (σ : kS) (n R S : Nat) : Prop := S ≤ 4 ∧ σ 232 27 = nI S ∧ ∀ s, s < S → ∃ r, r < R ∧ σ 255 s = nI r ∧ σ 250 r ≠ 0 ∧ ∀ k, k < fN (σ 244 r) → ∃ as, σ 246 (6 * r + k) = nI as ∧ ((as = 2 ∧ σ 256 (6 * s + k) = -6) ∨ (as < 2 ∧ ∃ z, z < n ∧ σ 256 (6 * s + k) = nI z ∧ σ 233 z = σ 240 (fN (σ 245 (6 * r + k)))))
/-- the RUN: by whom its EVENTS were done -/
def mRn (σ : kS) (n R S : Nat) (ds : List Nat) : Prop := σ 232 55 = nI ds.length ∧ lst (σ 274) ds ∧ (∀ s ∈ ds, s < S) ∧ ∀ s, s < S → mSn σ n R s (ds.count s)
def rowC : List Nat := [233, 234, 235, 236, 237, 243, 242, 266, 267, 272, 271, 268, 269, 270, 276, 232, 273, 252, 251, 253, 277, 278, 279, 280, 281, 282, 283]
def rowJ : List Nat := [10, 49, 50, 46, 47, 22, 61]
/-- nothing has changed but the row and what it is made of -/
def mFr (σ τ : kS) (n : Nat) : Prop := (∀ c, c ∉ rowC → τ c = σ c) ∧ (∀ j, j ∉ rowJ → τ 232 j = σ 232 j) ∧ ∀ u, u < 200 → τ 233 u = σ 233 u ∧ τ 234 u = σ 234 u ∧ τ 235 u = σ 235 u
theorem mFr_refl (σ : kS) (n : Nat) : mFr σ σ n := ⟨fun _ _ => rfl, fun _ _ => rfl, fun _ _ => ⟨rfl, rfl, rfl⟩⟩
theorem mFr_trans {σ τ ρ : kS} {n : Nat} (h1 : mFr σ τ n) (h2 : mFr τ ρ n) : mFr σ ρ n :=
  ⟨fun c hc => (h2.1 c hc).trans (h1.1 c hc), fun j hj => (h2.2.1 j hj).trans (h1.2.1 j hj), fun u hu => ⟨(h2.2.2 u hu).1.trans (h1.2.2 u hu).1, (h2.2.2 u hu).2.1.trans (h1.2.2 u hu).2.1, (h2.2.2 u hu).2.2.trans (h1.2.2 u hu).2.2⟩⟩
theorem mFr_rwF {σ τ : kS} {n : Nat} (h : rwF σ τ) : mFr σ τ n := by
  obtain ⟨⟨Mk, I, R, H, M, o, rfl⟩, g⟩ := h
  refine ⟨fun c hc => ?_, fun j hj => ?_, fun u hu => ⟨rfl, rfl, rfl⟩⟩
  · simp only [rowC, List.mem_cons, List.not_mem_nil, or_false, not_or] at hc
    simp [rwS, va_up, hc]
  · simp only [rowJ, List.mem_cons, List.not_mem_nil, or_false, not_or] at hj
    exact g j hj.2.1 hj.2.2.1 hj.2.2.2.1
theorem mFr_ex {σ τ : kS} {n b b' : Nat} (h : mEx σ τ n b b') (hb : 200 ≤ b) : mFr σ τ n := by
  obtain ⟨h1, h2, h3, K, F, S, Z, G, nx, hd, N, I, rfl⟩ := h
  refine ⟨fun c hc => ?_, fun j hj => ?_, fun u hu => h3 u (by omega)⟩
  · simp only [rowC, List.mem_cons, List.not_mem_nil, or_false, not_or] at hc
    simp [exS, mU, va_up, hc]
  · simp only [rowJ, List.mem_cons, List.not_mem_nil, or_false, not_or] at hj
    exact pk_un hj.1
theorem mFr_Rl (σ : kS) (n : Nat) (hd : Nat → Int32) (jd : Int32) : mFr σ (mRl σ hd jd) n := by
  refine ⟨fun c hc => ?_, fun j hj => ?_, fun u hu => ⟨rfl, rfl, rfl⟩⟩
  · simp only [rowC, List.mem_cons, List.not_mem_nil, or_false, not_or] at hc
    simp [mRl, va_up, hc]
  · simp only [rowJ, List.mem_cons, List.not_mem_nil, or_false, not_or] at hj
    show upd (upd (σ 232) 10 (nI 200)) 49 jd j = _
    rw [pk_un hj.2.1, pk_un hj.1]
theorem mFr_sent (σ : kS) (n : Nat) (f : Nat → Int32) : mFr σ (va_up σ 276 f) n := by
  refine ⟨fun c hc => ?_, fun j hj => rfl, fun u hu => ⟨rfl, rfl, rfl⟩⟩
  simp only [rowC, List.mem_cons, List.not_mem_nil, or_false, not_or] at hc
  simp [va_up, hc]
theorem mFr_rit (σ : kS) (n : Nat) (x : Int32) : mFr σ (va_up σ 232 (upd (σ 232) 47 x)) n := by
  refine ⟨fun c hc => ?_, fun j hj => ?_, fun u hu => ⟨rfl, rfl, rfl⟩⟩
  · simp only [rowC, List.mem_cons, List.not_mem_nil, or_false, not_or] at hc
    simp [va_up, hc]
  · simp only [rowJ, List.mem_cons, List.not_mem_nil, or_false, not_or] at hj
    show upd (σ 232) 47 x j = _
    exact pk_un hj.2.2.2.2.1
/-- what is told of numbered TERMS -/
theorem mTb_num {σ : kS} {n b : Nat} (h : mTb σ n b) : ∀ t, t < n → t < 100000 ∧ tOk (fun u => u < n) (mAG σ n) (σ 233) (σ 234) (σ 235) t := fun t ht => by
  have hV := h.2.2.2.2.2.1.1 t (Or.inl ht)
  exact ⟨hV.1, tOk_mono (fun x hx _ => by omega) (fun _ _ q => q) rfl rfl rfl hV.2⟩
theorem mFr_all {σ τ : kS} {n b t : Nat} (h : mTb σ n b) (hF : mFr σ τ n) (ht : t < n) : tvl (τ 233) (τ 234) (τ 235) t = tvl (σ 233) (σ 234) (σ 235) t ∧ tgd (τ 233) (τ 234) (τ 235) t = tgd (σ 233) (σ 234) (σ 235) t ∧ tvs (τ 233) (τ 234) (τ 235) t = tvs (σ 233) (σ 234) (σ 235) t := by
  have h200 := h.1
  have hF2 : ∀ u, u < n → τ 233 u = σ 233 u ∧ τ 234 u = σ 234 u ∧ τ 235 u = σ 235 u := fun u hu => hF.2.2 u (by omega)
  refine ⟨tA_congr (mTb_num h) (fun u hu => ⟨(hF2 u hu).1, (hF2 u hu).2.1, (hF2 u hu).2.2, rfl⟩) t ht, tA_congr (mTb_num h) (fun u hu => ⟨(hF2 u hu).1, (hF2 u hu).2.1, (hF2 u hu).2.2, by rw [(hF2 u hu).1]⟩) t ht, tA_congr (mTb_num h) (fun u hu => ⟨(hF2 u hu).1, (hF2 u hu).2.1, (hF2 u hu).2.2, by rw [(hF2 u hu).1]⟩) t ht⟩
theorem mFr_St {σ τ : kS} {n b s t : Nat} (h : mTb σ n b) (hF : mFr σ τ n) (ht : t < n) (hs : mSt σ n s t) : mSt τ n s t := by
  intro u hu
  rw [(mFr_all h hF ht).2.2] at hu
  obtain ⟨p, z, h1, h2, h3, h4, h5, h6⟩ := hs u hu
  refine ⟨p, z, h1, h2, ?_, ?_, (mFr_all h hF h2).2.1.trans h5, ?_⟩
  · rw [hF.1 241 (by decide)]
    exact h3
  · rw [hF.1 265 (by decide)]
    exact h4
  · rw [hF.1 240 (by decide), (hF.2.2 z (by have := h.1; omega)).1]
    exact h6
theorem mFr_Ro {σ τ : kS} {n b R : Nat} (h : mTb σ n b) (hF : mFr σ τ n) (hR : mRo σ n R) : mRo τ n R := by
  obtain ⟨h1, h2, h3, h4, h5, h6⟩ := hR
  have c := fun c (hc : c ∉ rowC) => hF.1 c hc
  refine ⟨h1, (hF.2.1 _ (by decide)).trans h2, ?_, ?_, ?_, ?_⟩
  · rw [c 244 (by decide), c 247 (by decide)]
    exact h3
  · rw [c 244 (by decide), c 245 (by decide), c 239 (by decide), c 241 (by decide), c 240 (by decide), c 246 (by decide)]
    intro r k hr hk
    obtain ⟨t, so, as, a1, a2, a3, a4⟩ := h4 r k hr hk
    exact ⟨t, so, as, a1, a2, ((hF.2.2 t (by have := h.1; omega)).1).trans a3, a4⟩
  · rw [c 244 (by decide), c 245 (by decide)]
    intro t ht hk
    exact h5 t ht ((hF.2.2 t (by have := h.1; omega)).1.symm.trans hk)
  · rw [c 247 (by decide), c 248 (by decide), c 239 (by decide), c 249 (by decide), c 246 (by decide), c 241 (by decide)]
    intro r e hr he
    obtain ⟨t, a1, a2, a3, a4⟩ := h6 r e hr he
    refine ⟨t, a1, a2, ?_, ?_⟩
    · rw [(mFr_all h hF a1).2.2]
      exact a3
    · rw [(mFr_all h hF a1).2.2]
      intro hs u hu ha
      obtain ⟨e', b1, b2, b3⟩ := a4 hs u hu ha
      refine ⟨e', b1, b2, ?_⟩
      obtain ⟨t', d1, d2, -⟩ := h6 r e' hr (by omega)
      rw [d2, fN_nI (by have := h.1; omega)] at b3 ⊢
      rw [(mFr_all h hF d1).2.2]
      exact b3
theorem mFr_Sn {σ τ : kS} {n b R s dn : Nat} (h : mTb σ n b) (hR : mRo σ n R) (hF : mFr σ τ n) (hS : mSn σ n R s dn) : mSn τ n R s dn := by
  obtain ⟨r, h1, h2, h3, h4, h5, h6, h7⟩ := hS
  have c := fun c (hc : c ∉ rowC) => hF.1 c hc
  refine ⟨r, h1, ?_, ?_, ?_, fun k hk => ?_, fun e he => ?_, ?_⟩
  · rw [c 255 (by decide)]; exact h2
  · rw [c 264 (by decide)]; exact h3
  · rw [c 247 (by decide)]; exact h4
  · have := h5 k hk
    unfold mVk at this ⊢
    rw [c 265 (by decide), c 244 (by decide), c 246 (by decide), c 240 (by decide), c 245 (by decide)]
    rcases this with q | ⟨z, q1, q2, q3, q4, q5⟩
    · exact Or.inl q
    · refine Or.inr ⟨z, q1, q2, (mFr_all h hF q1).2.1.trans q3, q4, ?_⟩
      rw [(hF.2.2 z (by have := h.1; omega)).1]
      exact q5
  · rw [c 248 (by decide)]
    obtain ⟨t, d1, d2, -⟩ := hR.2.2.2.2.2 r e h1 (by omega)
    have := h6 e he
    rw [d2, fN_nI (by have := h.1; omega)] at this ⊢
    exact mFr_St h hF d1 this
  · rw [c 244 (by decide), c 246 (by decide), c 265 (by decide), c 249 (by decide), c 245 (by decide), c 248 (by decide)]
    intro k hk ha hv
    obtain ⟨e, e1, e2, e3⟩ := h7 k hk ha hv
    obtain ⟨t, d1, d2, -⟩ := hR.2.2.2.2.2 r e h1 (by omega)
    refine ⟨e, e1, e2, ?_⟩
    rw [d2, fN_nI (by have := h.1; omega)] at e3 ⊢
    rw [(mFr_all h hF d1).2.2]
    exact e3
theorem mFr_Rn {σ τ : kS} {n b R S : Nat} {ds : List Nat} (h : mTb σ n b) (hR : mRo σ n R) (hF : mFr σ τ n) (hS : mRn σ n R S ds) : mRn τ n R S ds := by
  obtain ⟨h1, h2, h3, h4⟩ := hS
  refine ⟨(hF.2.1 _ (by decide)).trans h1, ?_, h3, fun s hs => mFr_Sn h hR hF (h4 s hs)⟩
  rw [hF.1 274 (by decide)]
  exact h2
theorem mFr_Se {σ τ : kS} {n b R S : Nat} (h : mTb σ n b) (hF : mFr σ τ n) (hS : mSe σ n R S) : mSe τ n R S := by
  obtain ⟨h1, h2, h3⟩ := hS
  have c := fun c (hc : c ∉ rowC) => hF.1 c hc
  refine ⟨h1, (hF.2.1 _ (by decide)).trans h2, ?_⟩
  rw [c 255 (by decide), c 250 (by decide), c 244 (by decide), c 246 (by decide), c 256 (by decide), c 240 (by decide), c 245 (by decide)]
  intro s hs
  obtain ⟨r, a1, a2, a3, a4⟩ := h3 s hs
  refine ⟨r, a1, a2, a3, fun k hk => ?_⟩
  obtain ⟨as, b1, b2⟩ := a4 k hk
  refine ⟨as, b1, ?_⟩
  rcases b2 with b2 | ⟨b2, z, b3, b4, b5⟩
  · exact Or.inl b2
  · exact Or.inr ⟨b2, z, b3, b4, (hF.2.2 z (by have := h.1; omega)).1.trans b5⟩
theorem mFr_Kn {σ τ : kS} {n b : Nat} {kl : List Nat} (h : mTb σ n b) (hF : mFr σ τ n) (hK : mKn σ n kl) : mKn τ n kl := by
  obtain ⟨h1, h2, h3, h4⟩ := hK
  refine ⟨(hF.2.1 _ (by decide)).trans h1, h2, ?_, fun t ht => ⟨(h4 t ht).1, (mFr_all h hF (h4 t ht).1).2.1.trans (h4 t ht).2⟩⟩
  rw [hF.1 254 (by decide)]
  exact h3
