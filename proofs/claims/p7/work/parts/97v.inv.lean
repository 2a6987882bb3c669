/-! the class: its invariant -/
/-- rows of values: nothing, or a GROUND TERM -/
def cV (σ : kS) (n S : Nat) (A : Nat → Int32) (base : Nat) : Prop := ∀ s k, s < S → k < 6 → A (base + 7 * s + 1 + k) = -1 ∨ ∃ z, z < n ∧ A (base + 7 * s + 1 + k) = nI z ∧ σ 8 z = 1
/-- an EVENT in the cells from a on -/
def cE (σ : kS) (n a : Nat) : Prop := ∃ t m q, t < n ∧ m ≤ 6 ∧ q ≤ 24 ∧ σ a 1 = nI t ∧ σ a 4 = nI m ∧ σ a 7 = nI q ∧ (∀ j, j < m → (∃ p, p < 6 ∧ σ (a + 1) j = nI p) ∧ (∃ so, so ≤ 3 ∧ σ (a + 2) j = nI so) ∧ ∃ f, f ≤ 24 ∧ σ (a + 4) (j + 1) = nI f) ∧ ∀ i, i < q → ∃ t', t' < n ∧ σ (a + 3) i = nI t'
def cR1 (σ : kS) (n r : Nat) : Prop := ∃ v e, v ≤ 6 ∧ e ≤ 6 ∧ σ (23 + 35 * r) 3 = nI v ∧ σ (23 + 35 * r) 5 = nI e ∧ (∀ k, k < v → ∃ so, so ≤ 3 ∧ σ (25 + 35 * r) k = nI so ∧ (σ (24 + 35 * r) k = 1 → so ≤ 2)) ∧ ∀ k, k < e → cE σ n (28 + 35 * r + 5 * k)
def cRo (σ : kS) (n R : Nat) : Prop := R ≤ 4 ∧ σ 13 2 = nI R ∧ ∀ r, r < R → cR1 σ n r
def cSe (σ : kS) (n R S : Nat) : Prop := S ≤ 4 ∧ σ 13 6 = nI S ∧ (∀ s, s < S → ∃ r, r < R ∧ σ 15 s = nI r) ∧ cV σ n S (σ 17) 0
def cCl (σ : kS) (C : Nat) : Prop := C ≤ 6 ∧ σ 13 8 = nI C ∧ ∀ c, c < C → (σ (163 + 3 * c) 0 ≠ 0 → ∃ v, v < 6 ∧ σ (163 + 3 * c) 3 = nI v) ∧ ∃ j, j ≤ 4 ∧ σ (163 + 3 * c) 6 = nI j ∧ ∀ i, i < j → (∃ x, x < 6 ∧ σ (164 + 3 * c) i = nI x) ∧ ∃ y, y < 6 ∧ σ (165 + 3 * c) i = nI y
def cKn (σ : kS) : Prop := ∃ k, k ≤ 20 ∧ σ 13 10 = nI k
/-- what an intruder has, in the cells from K on; its stretch begins at st -/
def cKe (σ : kS) (K st u : Nat) : Prop := (∀ s, s < 256 → σ (K + 1) s = -1 ∨ ∃ g, st ≤ g ∧ g < st + u ∧ σ (K + 1) s = nI g ∧ cSl (σ 2 g) (σ 3 g) (σ 4 g) = nI s) ∧ ∀ g, st ≤ g → g < st + u → (σ 6 g = -1 ∨ ∃ g', st ≤ g' ∧ g' < st + u ∧ σ 6 g = nI g') ∧ ∃ k, 4 ≤ k ∧ k ≤ 9 ∧ σ 2 g = nI k
def cKw (σ : kS) (K st : Nat) : Prop := σ K 1 = nI st ∧ ∃ u ln, u ≤ 576 ∧ ln ≤ 776 ∧ σ K 3 = nI u ∧ σ K 7 = nI ln ∧ (∀ i, i < ln → ∃ g, g < 1928 ∧ σ (K + 2) i = nI g) ∧ cKe σ K st u
/-- .. and what these are of is GROUND -/
def cKc (σ : kS) (n : Nat) (c : Int32) : Prop := c = -1 ∨ (∃ z, z < n ∧ c = nI z ∧ σ 8 z = 1) ∨ ∃ z, 200 ≤ z ∧ z < 2000 ∧ c = nI z
def cKg (σ : kS) (n st u : Nat) : Prop := ∀ g, st ≤ g → g < st + u → cKc σ n (σ 3 g) ∧ cKc σ n (σ 4 g)
def cRu (σ : kS) (n S : Nat) : Prop := σ 181 8 = 0 ∨ (σ 181 8 = 1 ∧ (∃ c, c ≤ 24 ∧ σ 181 7 = nI c ∧ ∀ i, i < c → ∃ s, s < S ∧ σ 183 i = nI s) ∧ cV σ n S (σ 182) 0 ∧ (σ 181 9 = -1 ∨ ∃ g, g ≤ n ∧ σ 181 9 = nI g ∧ (g = n → ∃ u, u ≤ 576 ∧ σ 186 3 = nI u ∧ cKg σ n 200 u)))
def cSr (σ : kS) (n S : Nat) : Prop := ∃ N, N ≤ 600 ∧ σ 196 5 = nI N ∧ (∀ i, i < N → cV σ n S (σ 197) (28 * i)) ∧ (∀ i, 0 < i → i < N → (∃ j, j < i ∧ σ 198 i = nI j) ∧ ∃ s, s < S ∧ σ 199 i = nI s) ∧ (σ 195 9 = -1 ∨ (0 < N ∧ ∃ ln, ln ≤ 24 ∧ σ 195 9 = nI ln ∧ ∀ k, k < ln → ∃ s, s < S ∧ σ 203 k = nI s))
def cQ (σ : kS) : Prop := (∀ j, j < 200 → σ 231 j = 0 ∨ σ 231 j = 1) ∧ ∃ v, v ≤ 22 ∧ σ 222 3 = nI v
/-- all of the class: n TERMS, R ROLES, S SESSIONS, C CLAIMS -/
def cJ (σ : kS) (n R S C : Nat) : Prop := cT σ n ∧ cRo σ n R ∧ cSe σ n R S ∧ cCl σ C ∧ cKn σ ∧ cKw σ 186 200 ∧ cKw σ 204 776 ∧ cKw σ 213 1352 ∧ cRu σ n S ∧ cSr σ n S ∧ cQ σ
/-- the reference's cells are as they were -/
def cHi (σ τ : kS) : Prop := ∀ c, 232 ≤ c → τ c = σ c
theorem cHi_refl (σ : kS) : cHi σ σ := fun _ _ => rfl
theorem cHi_trans {σ τ ρ : kS} (h1 : cHi σ τ) (h2 : cHi τ ρ) : cHi σ ρ := fun c hc => (h2 c hc).trans (h1 c hc)
/-- what a call of the class leaves -/
def cAfter (σ σ' : kS) (R' : Nat) : Prop := cHi σ σ' ∧ ∃ n S C, cJ σ' n R' S C
theorem cAfter_same {σ : kS} {n R S C : Nat} (h : cJ σ n R S C) : cAfter σ σ R := ⟨cHi_refl σ, n, S, C, h⟩
def tC : List Nat := [1, 2, 3, 4, 5, 6, 7, 8, 9, 10, 11, 12]
/-- TERMS may have come: n of them stay GROUND or not; nothing else has changed -/
def cGr (σ τ : kS) (n : Nat) : Prop := (∀ c, c ∉ tC → τ c = σ c) ∧ (∀ u, u < n → τ 8 u = σ 8 u) ∧ ∀ g, 200 ≤ g → τ 2 g = σ 2 g ∧ τ 3 g = σ 3 g ∧ τ 4 g = σ 4 g ∧ τ 6 g = σ 6 g
theorem cGr_refl (σ : kS) (n : Nat) : cGr σ σ n := ⟨fun _ _ => rfl, fun _ _ => rfl, fun _ _ => ⟨rfl, rfl, rfl, rfl⟩⟩
theorem cGr_trans {σ τ ρ : kS} {n m : Nat} (h1 : cGr σ τ n) (h2 : cGr τ ρ m) (hm : n ≤ m) : cGr σ ρ n := ⟨fun c hc => (h2.1 c hc).trans (h1.1 c hc), fun u hu => (h2.2.1 u (by omega)).trans (h1.2.1 u hu), fun g hg => ⟨(h2.2.2 g hg).1.trans (h1.2.2 g hg).1, (h2.2.2 g hg).2.1.trans (h1.2.2 g hg).2.1, (h2.2.2 g hg).2.2.1.trans (h1.2.2 g hg).2.2.1, (h2.2.2 g hg).2.2.2.trans (h1.2.2 g hg).2.2.2⟩⟩
theorem cGr_hi {σ τ : kS} {n : Nat} (h : cGr σ τ n) : cHi σ τ := fun c hc => h.1 c (fun q => by
  simp only [tC, List.mem_cons, List.not_mem_nil, or_false] at q
  omega)
theorem cV_gr {σ τ : kS} {n m S base : Nat} {A : Nat → Int32} (h : cGr σ τ n) (hm : n ≤ m) (hv : cV σ n S A base) : cV τ m S A base := fun s k hs hk => by
  rcases hv s k hs hk with q | ⟨z, z1, z2, z3⟩
  · exact Or.inl q
  · exact Or.inr ⟨z, by omega, z2, by rw [h.2.1 z z1]; exact z3⟩
theorem cE_up {σ τ : kS} {n m a : Nat} (hm : n ≤ m) (e : ∀ i, i < 5 → τ (a + i) = σ (a + i)) (h : cE σ n a) : cE τ m a := by
  obtain ⟨t, mm, q, h1, h2, h3, h4, h5, h6, h7, h8⟩ := h
  have e0 : τ a = σ a := e 0 (by omega)
  refine ⟨t, mm, q, by omega, h2, h3, by rw [e0]; exact h4, by rw [e0]; exact h5, by rw [e0]; exact h6, ?_, ?_⟩
  · rw [e 1 (by omega), e 2 (by omega), e 4 (by omega)]
    exact h7
  · rw [e 3 (by omega)]
    intro i hi
    obtain ⟨t', t1, t2⟩ := h8 i hi
    exact ⟨t', by omega, t2⟩
theorem tC_lt {c : Nat} (h : c ∈ tC) : c < 13 := by
  simp only [tC, List.mem_cons, List.not_mem_nil, or_false] at h
  omega
theorem cRo_gr {σ τ : kS} {n m R : Nat} (hm : n ≤ m) (e : ∀ c, 13 ≤ c → c < 163 → τ c = σ c) (h : cRo σ n R) : cRo τ m R := by
  obtain ⟨h1, h2, h3⟩ := h
  refine ⟨h1, by rw [e 13 (by omega) (by omega)]; exact h2, fun r hr => ?_⟩
  obtain ⟨v, ev, a1, a2, a3, a4, a5, a6⟩ := h3 r hr
  refine ⟨v, ev, a1, a2, by rw [e _ (by omega) (by omega)]; exact a3, by rw [e _ (by omega) (by omega)]; exact a4, by rw [e (25 + 35 * r) (by omega) (by omega), e (24 + 35 * r) (by omega) (by omega)]; exact a5, fun k hk => cE_up hm (fun i hi => e _ (by omega) (by omega)) (a6 k hk)⟩
theorem cKe_eq {σ τ : kS} {K st u : Nat} (hst : 200 ≤ st) (e1 : τ (K + 1) = σ (K + 1)) (e : ∀ g, 200 ≤ g → τ 2 g = σ 2 g ∧ τ 3 g = σ 3 g ∧ τ 4 g = σ 4 g ∧ τ 6 g = σ 6 g) (h : cKe σ K st u) : cKe τ K st u := by
  obtain ⟨h1, h2⟩ := h
  refine ⟨fun s hs => ?_, fun g g1 g2 => ?_⟩
  · rw [e1]
    rcases h1 s hs with q | ⟨g, q1, q2, q3, q4⟩
    · exact Or.inl q
    · refine Or.inr ⟨g, q1, q2, q3, ?_⟩
      rw [(e g (by omega)).1, (e g (by omega)).2.1, (e g (by omega)).2.2.1]
      exact q4
  · rw [(e g (by omega)).2.2.2, (e g (by omega)).1]
    exact h2 g g1 g2
theorem cKw_eq {σ τ : kS} {K st : Nat} (hst : 200 ≤ st) (e0 : τ K = σ K) (e1 : τ (K + 1) = σ (K + 1)) (e2 : τ (K + 2) = σ (K + 2)) (e : ∀ g, 200 ≤ g → τ 2 g = σ 2 g ∧ τ 3 g = σ 3 g ∧ τ 4 g = σ 4 g ∧ τ 6 g = σ 6 g) (h : cKw σ K st) : cKw τ K st := by
  obtain ⟨h1, u, ln, h2, h3, h4, h5, h6, h7⟩ := h
  exact ⟨by rw [e0]; exact h1, u, ln, h2, h3, by rw [e0]; exact h4, by rw [e0]; exact h5, by rw [e2]; exact h6, cKe_eq hst e1 e h7⟩
theorem cKg_gr {σ τ : kS} {n st u : Nat} (hst : 200 ≤ st) (h : cGr σ τ n) (hg : cKg σ n st u) : cKg τ n st u := fun g g1 g2 => by
  rw [(h.2.2 g (by omega)).2.1, (h.2.2 g (by omega)).2.2.1]
  have key : ∀ c, cKc σ n c → cKc τ n c := fun c hc => by
    rcases hc with q | ⟨z, z1, z2, z3⟩ | q
    · exact Or.inl q
    · exact Or.inr (Or.inl ⟨z, z1, z2, by rw [h.2.1 z z1]; exact z3⟩)
    · exact Or.inr (Or.inr q)
  exact ⟨key _ (hg g g1 g2).1, key _ (hg g g1 g2).2⟩
/-- TERMS may have come: all stays -/
theorem cJ_gr {σ τ : kS} {n m R S C : Nat} (h : cJ σ n R S C) (hG : cGr σ τ n) (hm : n ≤ m) (hT : cT τ m) : cJ τ m R S C := by
  obtain ⟨h1, h2, h3, h4, h5, h6, h7, h8, h9, h10, h11⟩ := h
  have e : ∀ c, 13 ≤ c → τ c = σ c := fun c hc => hG.1 c (fun q => by have := tC_lt q; omega)
  refine ⟨hT, cRo_gr hm (fun c c1 _ => e c c1) h2, ?_, ?_, ?_, cKw_eq (by decide) (e _ (by decide)) (e _ (by decide)) (e _ (by decide)) hG.2.2 h6, cKw_eq (by decide) (e _ (by decide)) (e _ (by decide)) (e _ (by decide)) hG.2.2 h7, cKw_eq (by decide) (e _ (by decide)) (e _ (by decide)) (e _ (by decide)) hG.2.2 h8, ?_, ?_, ?_⟩
  · obtain ⟨a1, a2, a3, a4⟩ := h3
    refine ⟨a1, by rw [e 13 (by decide)]; exact a2, by rw [e 15 (by decide)]; exact a3, ?_⟩
    rw [e 17 (by decide)]
    exact cV_gr hG hm a4
  · obtain ⟨a1, a2, a3⟩ := h4
    refine ⟨a1, by rw [e 13 (by decide)]; exact a2, fun c hc => ?_⟩
    rw [e (163 + 3 * c) (by omega), e (164 + 3 * c) (by omega), e (165 + 3 * c) (by omega)]
    exact a3 c hc
  · unfold cKn
    rw [e 13 (by decide)]
    exact h5
  · unfold cRu
    rw [e 181 (by decide), e 183 (by decide), e 182 (by decide), e 186 (by decide)]
    rcases h9 with q | ⟨q1, q2, q3, q4⟩
    · exact Or.inl q
    · refine Or.inr ⟨q1, q2, cV_gr hG hm q3, ?_⟩
      rcases q4 with q4 | ⟨g, g1, g2, g3⟩
      · exact Or.inl q4
      · refine Or.inr ⟨g, by omega, g2, fun hg => ?_⟩
        have hmn : m = n := by omega
        subst hmn
        obtain ⟨u, u1, u2, u3⟩ := g3 hg
        exact ⟨u, u1, u2, cKg_gr (by decide) hG u3⟩
  · obtain ⟨N, a1, a2, a3, a4, a5⟩ := h10
    refine ⟨N, a1, by rw [e 196 (by decide)]; exact a2, fun i hi => ?_, ?_, ?_⟩
    · rw [e 197 (by decide)]
      exact cV_gr hG hm (a3 i hi)
    · rw [e 198 (by decide), e 199 (by decide)]
      exact a4
    · rw [e 195 (by decide), e 203 (by decide)]
      exact a5
  · unfold cQ
    rw [e 231 (by decide), e 222 (by decide)]
    exact h11
