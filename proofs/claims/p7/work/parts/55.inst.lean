/-! the reference: a TERM whose VARIABLES stand for something -/
theorem mTb_is2 {σ : kS} {n b t k x y : Nat} (h : mTb σ n b) (ht : mv n b t) (hi : mIs σ t (nI k) (nI x) (nI y)) (hk : 3 < k) (hk9 : k ≤ 9) (hx : x < 1000) (hy : y < 1000) : tvl (σ 233) (σ 234) (σ 235) t = vnd k (tvl (σ 233) (σ 234) (σ 235) x) (some (tvl (σ 233) (σ 234) (σ 235) y)) ∧ tgd (σ 233) (σ 234) (σ 235) t = (tgd (σ 233) (σ 234) (σ 235) x && tgd (σ 233) (σ 234) (σ 235) y) := by
  have hV := h.2.2.2.2.2.1.1
  rcases (hV t ht).2 with ⟨k', h3, hk', -, -⟩ | ⟨k', x', y', h3, hk', hx', hy', h4, h5, h6, h7⟩ | ⟨k', x', h3, hk', hx', hy', h4, h6⟩
  · have := nI_inj (hi.1.symm.trans hk')
    omega
  · have e1 := (hV x' h6).1
    have e2 := (hV y' h7).1
    obtain rfl : k = k' := nI_inj (hi.1.symm.trans hk')
    obtain rfl : x = x' := nI_inj (hi.2.1.symm.trans hx')
    obtain rfl : y = y' := nI_inj (hi.2.2.symm.trans hy')
    exact ⟨tvl_2 hV hk' hx' hy' hk hk9 h4 h5 h6 h7, tgd_2 hV hk' hx' hy' hk hk9 h4 h5 h6 h7⟩
  · exact absurd (hi.2.2.symm.trans hy') (nI_m1 (by omega))
theorem mTb_is1 {σ : kS} {n b t k x : Nat} (h : mTb σ n b) (ht : mv n b t) (hi : mIs σ t (nI k) (nI x) (-1)) (hk : 3 < k) (hk9 : k ≤ 9) (hx : x < 1000) : tvl (σ 233) (σ 234) (σ 235) t = vnd k (tvl (σ 233) (σ 234) (σ 235) x) none ∧ tgd (σ 233) (σ 234) (σ 235) t = tgd (σ 233) (σ 234) (σ 235) x := by
  have hV := h.2.2.2.2.2.1.1
  rcases (hV t ht).2 with ⟨k', h3, hk', -, -⟩ | ⟨k', x', y', h3, hk', hx', hy', h4, h5, h6, h7⟩ | ⟨k', x', h3, hk', hx', hy', h4, h6⟩
  · have := nI_inj (hi.1.symm.trans hk')
    omega
  · have e2 := (hV y' h7).1
    exact absurd (hy'.symm.trans hi.2.2) (nI_m1 (by omega))
  · have e1 := (hV x' h6).1
    obtain rfl : k = k' := nI_inj (hi.1.symm.trans hk')
    obtain rfl : x = x' := nI_inj (hi.2.1.symm.trans hx')
    exact ⟨tvl_1 hV hk' hx' hy' hk hk9 h4 h6, tgd_1 hV hk' hx' hy' hk hk9 h4 h6⟩
/-- what a VARIABLE's TERM stands for in the session s -/
def mVl (σ : kS) (s u : Nat) : Nat := fN (σ 265 (6 * s + fN (σ 241 u)))
/-- a TERM whose VARIABLES stand as in the session s -/
def tin (σ : kS) (s t : Nat) : Jvm.Term := tA (fun u => if σ 233 u = nI 3 then tvl (σ 233) (σ 234) (σ 235) (mVl σ s u) else .arg u) vnd (σ 233) (σ 234) (σ 235) t
/-- all VARIABLES of the TERM t stand for GROUND TERMS, those for AGENTS for AGENTS -/
def mSt (σ : kS) (n s t : Nat) : Prop := ∀ u ∈ tvs (σ 233) (σ 234) (σ 235) t, ∃ p z, p < 6 ∧ z < n ∧ σ 241 u = nI p ∧ σ 265 (6 * s + p) = nI z ∧ tgd (σ 233) (σ 234) (σ 235) z = true ∧ (σ 240 u = nI 0 → σ 233 z = nI 0)
/-- contents with a longer table -/
def exS (σ : kS) (K F S Z G nx hd N I : Nat → Int32) (b : Nat) : kS := va_up (va_up (mU σ K F S Z G nx hd (upd (σ 232) 10 (nI b))) 266 N) 267 I
theorem exS_of {σ τ : kS} (h : ∀ c, c ≠ 233 → c ≠ 234 → c ≠ 235 → c ≠ 236 → c ≠ 237 → c ≠ 243 → c ≠ 242 → c ≠ 232 → c ≠ 266 → c ≠ 267 → τ c = σ c) {b : Nat} (hb : τ 232 = upd (σ 232) 10 (nI b)) : τ = exS σ (τ 233) (τ 234) (τ 235) (τ 236) (τ 237) (τ 243) (τ 242) (τ 266) (τ 267) b := by
  funext c
  unfold exS mU va_up
  repeat' split
  all_goals first | (next e => rw [e]) | skip
  · next h1 h2 e => rw [e, hb]
  · next h1 h2 h3 h4 h5 h6 h7 h8 h9 h10 => exact h c h10 h9 h8 h7 h6 h5 h4 h3 h2 h1
/-- the table has grown to b', the old TERMS are as they were -/
def mEx (σ τ : kS) (n b b' : Nat) : Prop := mTb τ n b' ∧ b ≤ b' ∧ (∀ u, u < b → τ 233 u = σ 233 u ∧ τ 234 u = σ 234 u ∧ τ 235 u = σ 235 u) ∧ ∃ K F S Z G nx hd N I, τ = exS σ K F S Z G nx hd N I b'
theorem mEx_trans {σ τ ρ : kS} {n b b' b'' : Nat} (h1 : mEx σ τ n b b') (h2 : mEx τ ρ n b' b'') : mEx σ ρ n b b'' := by
  obtain ⟨a1, a2, a3, K, F, S, Z, G, nx, hd, N, I, rfl⟩ := h1
  obtain ⟨c1, c2, c3, K', F', S', Z', G', nx', hd', N', I', rfl⟩ := h2
  refine ⟨c1, by omega, fun u hu => ?_, K', F', S', Z', G', nx', hd', N', I', ?_⟩
  · obtain ⟨p1, p2, p3⟩ := c3 u (by omega)
    obtain ⟨q1, q2, q3⟩ := a3 u hu
    exact ⟨p1.trans q1, p2.trans q2, p3.trans q3⟩
  · have := exS_of (σ := σ) (τ := exS (exS σ K F S Z G nx hd N I b') K' F' S' Z' G' nx' hd' N' I' b'') (b := b'') (fun c h1 h2 h3 h4 h5 h6 h7 h8 h9 h10 => by simp [exS, mU, va_up, h1, h2, h3, h4, h5, h6, h7, h8, h9, h10]) (by
      funext j
      show upd (upd (σ 232) 10 (nI b')) 10 (nI b'') j = _
      unfold upd
      split <;> rfl)
    rw [this]
    rfl
theorem mEx_tvl {σ τ : kS} {n b b' : Nat} (h0 : mTb σ n b) (h : mEx σ τ n b b') {u : Nat} (hu : mv n b u) : tvl (τ 233) (τ 234) (τ 235) u = tvl (σ 233) (σ 234) (σ 235) u ∧ tgd (τ 233) (τ 234) (τ 235) u = tgd (σ 233) (σ 234) (σ 235) u :=
  have hlt : ∀ t, mv n b t → t < b := fun t ht => by have := h0.1; have := h0.2.1; unfold mv at ht; omega
  ⟨tA_congr h0.2.2.2.2.2.1.1 (fun t ht => ⟨(h.2.2.1 t (hlt t ht)).1, (h.2.2.1 t (hlt t ht)).2.1, (h.2.2.1 t (hlt t ht)).2.2, rfl⟩) u hu, tA_congr h0.2.2.2.2.2.1.1 (fun t ht => ⟨(h.2.2.1 t (hlt t ht)).1, (h.2.2.1 t (hlt t ht)).2.1, (h.2.2.1 t (hlt t ht)).2.2, by rw [(h.2.2.1 t (hlt t ht)).1]⟩) u hu⟩
theorem mEx_refl {σ : kS} {n b : Nat} (h : mTb σ n b) {τ : kS} {N I : Nat → Int32} (e : τ = va_up (va_up σ 266 N) 267 I) : mEx σ τ n b b := by
  subst e
  refine ⟨h, Nat.le_refl _, fun u _ => ⟨rfl, rfl, rfl⟩, σ 233, σ 234, σ 235, σ 236, σ 237, σ 243, σ 242, N, I, ?_⟩
  have := exS_of (σ := σ) (τ := va_up (va_up σ 266 N) 267 I) (b := b) (fun c h1 h2 h3 h4 h5 h6 h7 h8 h9 h10 => by simp [va_up, h9, h10]) (by
    funext j
    show σ 232 j = _
    unfold upd
    split
    · next e => rw [e]; exact h.2.2.2.2.1
    · rfl)
  rw [this]
  rfl
