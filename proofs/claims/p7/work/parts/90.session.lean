/-! the reference: session, what it fills in -/
/-- VARIABLE i of the role r has what it is to have in the session S that is being made -/
def ssO (τ : kS) (n r S i : Nat) : Prop := ∃ as, τ 246 (6 * r + i) = nI as ∧ ((as = 2 ∧ τ 256 (6 * S + i) = -6) ∨ (as < 2 ∧ ∃ z, z < n ∧ τ 256 (6 * S + i) = nI z ∧ τ 233 z = τ 240 (fN (τ 245 (6 * r + i)))))
/-- all but the RUN and the ATTACK -/
def mJ (σ : kS) (n b R S C : Nat) (kl : List Nat) : Prop := mTb σ n b ∧ mRo σ n R ∧ mSe σ n R S ∧ mKn σ n kl ∧ mCl σ R C ∧ σ 232 52 = 0
theorem mJ_new {σ τ : kS} {n b R S C k : Nat} {kl : List Nat} {a c : Int32} (h : mJ σ n b R S C kl) (hN : mNw σ τ n k a c) (hk : k < 3) : mJ τ (n + 1) 200 R S C kl := by
  have hG := mGr_new hN
  obtain ⟨h1, h2, h3, h4, h5, h6⟩ := h
  have hT : mTb τ (n + 1) 200 := by
    obtain ⟨_, _, _, _, _, _, q⟩ := hN
    exact q
  have hkk : τ 233 n = nI k := by
    obtain ⟨_, _, _, _, _, rfl, _⟩ := hN
    exact pk_us
  have hn1 : n ≤ n + 1 := by omega
  refine ⟨hT, mRo_up hn1 (fun t t1 t2 => ?_) (mGr_Ro h1 hG h2), mSe_up hn1 (mGr_Se h1 hG h3), mKn_up hn1 (mGr_Kn h1 hG h4), mGr_Cl hG h5, (hG.2.1 _ (by decide)).trans h6⟩
  obtain rfl : t = n := by omega
  rw [hkk]
  exact nI_ne (by omega)
theorem ssO_new {σ τ : kS} {n r S i k : Nat} {a c : Int32} (hn : n ≤ 200) (hN : mNw σ τ n k a c) (h : ssO σ n r S i) : ssO τ (n + 1) r S i := by
  have hG := mGr_new hN
  have e := fun c (hc : c ∉ rowC) => hG.1 c hc
  obtain ⟨as, h1, h2⟩ := h
  unfold ssO
  rw [e 246 (by decide), e 256 (by decide), e 240 (by decide), e 245 (by decide)]
  refine ⟨as, h1, h2.imp id (fun ⟨g1, z, g2, g3, g4⟩ => ⟨g1, z, by omega, g3, (hG.2.2 z g2).1.trans g4⟩)⟩
/-- the store of what VARIABLE k stands for at first -/
theorem mJ_at {σ : kS} {n b R S C k : Nat} {kl : List Nat} {x : Int32} (h : mJ σ n b R S C kl) : mJ (va_up σ 256 (upd (σ 256) (6 * S + k) x)) n b R S C kl := by
  obtain ⟨h1, h2, h3, h4, h5, h6⟩ := h
  refine ⟨h1, h2, ⟨h3.1, h3.2.1, fun s hs => ?_⟩, h4, h5, h6⟩
  obtain ⟨r, r1, r2, r3, r4⟩ := h3.2.2 s hs
  refine ⟨r, r1, r2, r3, fun k' hk' => ?_⟩
  have hR4 := h2.1
  obtain ⟨⟨v, hv6, hv⟩, -⟩ := h2.2.2.1 r r1
  have hk6 : k' < 6 := by
    have : k' < fN (σ 244 r) := hk'
    rw [hv, fN_nI (by omega)] at this
    omega
  show ∃ as, σ 246 (6 * r + k') = nI as ∧ ((as = 2 ∧ upd (σ 256) (6 * S + k) x (6 * s + k') = -6) ∨ (as < 2 ∧ ∃ z, z < n ∧ upd (σ 256) (6 * S + k) x (6 * s + k') = nI z ∧ σ 233 z = σ 240 (fN (σ 245 (6 * r + k')))))
  rw [pk_un (by omega)]
  exact r4 k' hk'
theorem ssO_at {σ : kS} {n r S i k : Nat} {x : Int32} (hi : i ≠ k) (h : ssO σ n r S i) : ssO (va_up σ 256 (upd (σ 256) (6 * S + k) x)) n r S i := by
  show ∃ as, σ 246 (6 * r + i) = nI as ∧ ((as = 2 ∧ upd (σ 256) (6 * S + k) x (6 * S + i) = -6) ∨ (as < 2 ∧ ∃ z, z < n ∧ upd (σ 256) (6 * S + k) x (6 * S + i) = nI z ∧ σ 233 z = σ 240 (fN (σ 245 (6 * r + i)))))
  rw [pk_un (by omega)]
  exact h
/-- one session more -/
def seS (σ : kS) (S r : Nat) : kS := va_up (va_up (va_up σ 255 (upd (σ 255) S (nI r))) 250 (upd (σ 250) r 1)) 232 (upd (σ 232) 27 (nI (S + 1)))
theorem mI_se {σ : kS} {n b R S C r : Nat} {kl : List Nat} (h : mJ σ n b R S C kl) (hS : S < 4) (hr : r < R) (hs : ∀ i, i < fN (σ 244 r) → ssO σ n r S i) : mI (va_up (seS σ S r) 232 (fgO (seS σ S r 232))) n b R (S + 1) C kl := by
  obtain ⟨h1, h2, h3, h4, h5, h6⟩ := h
  refine mI_fg (σ := seS σ S r) h1 h2 ⟨by omega, rfl, fun s hs' => ?_⟩ h4 h5 h6
  show ∃ r', r' < R ∧ upd (σ 255) S (nI r) s = nI r' ∧ upd (σ 250) r 1 r' ≠ 0 ∧ ∀ k, k < fN (σ 244 r') → ∃ as, σ 246 (6 * r' + k) = nI as ∧ ((as = 2 ∧ σ 256 (6 * s + k) = -6) ∨ (as < 2 ∧ ∃ z, z < n ∧ σ 256 (6 * s + k) = nI z ∧ σ 233 z = σ 240 (fN (σ 245 (6 * r' + k)))))
  by_cases e : s = S
  · subst e
    refine ⟨r, hr, pk_us, by rw [pk_us]; decide, hs⟩
  · obtain ⟨r', r1, r2, r3, r4⟩ := h3.2.2 s (by omega)
    refine ⟨r', r1, by rw [pk_un e]; exact r2, ?_, r4⟩
    by_cases e2 : r' = r
    · subst e2
      rw [pk_us]
      decide
    · rw [pk_un e2]
      exact r3
theorem mLow_se {σ : kS} {S r : Nat} : mLow σ (va_up (seS σ S r) 232 (fgO (seS σ S r 232))) := by
  intro c hc
  simp only [seS, va_up]
  repeat rw [if_neg (by omega)]
