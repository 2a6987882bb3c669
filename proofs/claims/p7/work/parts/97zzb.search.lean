/-! the class: the search -/
def sF (σ τ : kS) : Prop := (∀ c, c < 195 ∨ 232 ≤ c → c ≠ 2 → c ≠ 3 → c ≠ 4 → c ≠ 5 → c ≠ 6 → τ c = σ c) ∧ ∀ j, j < 776 → τ 2 j = σ 2 j ∧ τ 3 j = σ 3 j ∧ τ 4 j = σ 4 j ∧ τ 6 j = σ 6 j
theorem sF_trans {σ τ ρ : kS} (h1 : sF σ τ) (h2 : sF τ ρ) : sF σ ρ := ⟨fun c a1 a2 a3 a4 a5 a6 => (h2.1 c a1 a2 a3 a4 a5 a6).trans (h1.1 c a1 a2 a3 a4 a5 a6), fun j hj => ⟨(h2.2 j hj).1.trans (h1.2 j hj).1, (h2.2 j hj).2.1.trans (h1.2 j hj).2.1, (h2.2 j hj).2.2.1.trans (h1.2 j hj).2.2.1, (h2.2 j hj).2.2.2.trans (h1.2 j hj).2.2.2⟩⟩
theorem sF_of {σ τ : kS} (e : ∀ c, c < 195 ∨ 232 ≤ c → τ c = σ c) : sF σ τ := ⟨fun c a1 _ _ _ _ _ => e c a1, fun j _ => by
  rw [e 2 (by decide), e 3 (by decide), e 4 (by decide), e 6 (by decide)]
  exact ⟨rfl, rfl, rfl, rfl⟩⟩
theorem sF_13 {σ τ : kS} (h : sF σ τ) (c : Nat) (h1 : 13 ≤ c) (h2 : c < 195) : τ c = σ c := h.1 c (Or.inl h2) (by omega) (by omega) (by omega) (by omega) (by omega)
theorem sF_g {σ τ : kS} (h : sF σ τ) : τ 8 = σ 8 := h.1 _ (by decide) (by decide) (by decide) (by decide) (by decide) (by decide)
theorem cT_sF {σ τ : kS} {n : Nat} (h : sF σ τ) (hT : cT σ n) : cT τ n := by
  have hn := hT.1
  exact cT_eq (by rw [h.1 1 (by decide) (by decide) (by decide) (by decide) (by decide) (by decide)]) (h.1 _ (by decide) (by decide) (by decide) (by decide) (by decide) (by decide)) (fun u hu => ⟨(h.2 u (by omega)).1, (h.2 u (by omega)).2.1, (h.2 u (by omega)).2.2.1, by rw [sF_g h], by rw [h.1 12 (by decide) (by decide) (by decide) (by decide) (by decide) (by decide)], (h.2 u (by omega)).2.2.2⟩) hT
def cSn (τ : kS) (n S N : Nat) : Prop := N ≤ 600 ∧ τ 196 5 = nI N ∧ (∀ i, i < N → cV τ n S (τ 197) (28 * i)) ∧ (∀ i, 0 < i → i < N → (∃ j, j < i ∧ τ 198 i = nI j) ∧ ∃ s, s < S ∧ τ 199 i = nI s) ∧ (τ 195 9 = -1 ∨ (0 < N ∧ ∃ ln, ln ≤ 24 ∧ τ 195 9 = nI ln ∧ ∀ k, k < ln → ∃ s, s < S ∧ τ 203 k = nI s))
theorem cSn_eq {σ τ : kS} {n S N : Nat} (e : ∀ z, z < n → τ 8 z = σ 8 z) (e1 : τ 196 = σ 196) (e2 : τ 197 = σ 197) (e3 : τ 198 = σ 198) (e4 : τ 199 = σ 199) (e5 : τ 195 9 = σ 195 9) (e6 : τ 203 = σ 203) (h : cSn σ n S N) : cSn τ n S N := by
  obtain ⟨a1, a2, a3, a4, a5⟩ := h
  refine ⟨a1, by rw [e1]; exact a2, fun i hi => ?_, by rw [e3, e4]; exact a4, by rw [e5, e6]; exact a5⟩
  rw [e2]
  exact cV_eq e (a3 i hi)
def sI (σ τ : kS) (n S N : Nat) : Prop := sF σ τ ∧ cKw τ 204 776 ∧ cKw τ 213 1352 ∧ cSn τ n S N ∧ cQ τ ∧ cO τ n
/-- only the draft, the way, and fields of the search have changed -/
theorem sI_eq {σ τ ω : kS} {n S N : Nat} (h : sI σ τ n S N) (e : ∀ c, c ≠ 195 → c ≠ 202 → c ≠ 222 → c ≠ 229 → c ≠ 230 → c ≠ 231 → ω c = τ c) (el : ω 195 9 = τ 195 9) (hq : cQ ω) : sI σ ω n S N := by
  obtain ⟨h1, h2, h3, h4, h5, h6⟩ := h
  have e' : ∀ c, c < 195 ∨ (195 < c ∧ c < 202) ∨ (202 < c ∧ c < 222) ∨ (222 < c ∧ c < 229) ∨ 231 < c → ω c = τ c := fun c hc => e c (by omega) (by omega) (by omega) (by omega) (by omega) (by omega)
  have hg : ∀ z, z < n → ω 8 z = τ 8 z := fun z _ => by rw [e' _ (by decide)]
  have hgt : ∀ g, 200 ≤ g → ω 2 g = τ 2 g ∧ ω 3 g = τ 3 g ∧ ω 4 g = τ 4 g ∧ ω 6 g = τ 6 g := fun g _ => by
    rw [e' 2 (by decide), e' 3 (by decide), e' 4 (by decide), e' 6 (by decide)]
    exact ⟨rfl, rfl, rfl, rfl⟩
  exact ⟨sF_trans h1 (sF_of (fun c hc => e' c (by omega))), cKw_eq (by decide) (e' _ (by decide)) (e' _ (by decide)) (e' _ (by decide)) hgt h2, cKw_eq (by decide) (e' _ (by decide)) (e' _ (by decide)) (e' _ (by decide)) hgt h3, cSn_eq hg (e' _ (by decide)) (e' _ (by decide)) (e' _ (by decide)) (e' _ (by decide)) el (e' _ (by decide)) h4, hq, cO_eq hg (fun c c1 c2 => e' c (by omega)) h6⟩
/-- an intruder's cells have changed -/
theorem sI_K {σ τ ω : kS} {n S N K st : Nat} (h : sI σ τ n S N) (hK : (K = 204 ∧ st = 776) ∨ (K = 213 ∧ st = 1352)) (hF : nF τ ω K st) (hk : cKw ω K st) : sI σ ω n S N := by
  obtain ⟨h1, h2, h3, h4, h5, h6⟩ := h
  have hc : ∀ c, 7 ≤ c → c < 204 ∨ 222 ≤ c → ω c = τ c := fun c a b => hF.1 c (by omega) (by omega) (by omega) (by omega) (by omega) (by omega)
  have hg : ∀ z, z < n → ω 8 z = τ 8 z := fun z _ => by rw [hc _ (by decide) (by decide)]
  have hs : sF τ ω := ⟨fun c a1 a2 a3 a4 a5 a6 => hF.1 c (by omega) a2 a3 a4 a5 a6, fun j hj => hF.2 j (by omega)⟩
  refine ⟨sF_trans h1 hs, ?_, ?_, cSn_eq hg (hc _ (by decide) (by decide)) (hc _ (by decide) (by decide)) (hc _ (by decide) (by decide)) (hc _ (by decide) (by decide)) (by rw [hc 195 (by decide) (by decide)]) (hc _ (by decide) (by decide)) h4, cQ_eq (hc _ (by decide) (by decide)) (hc _ (by decide) (by decide)) h5, cO_eq hg (fun c c1 c2 => hc c (by omega) (by omega)) h6⟩
  · rcases hK with ⟨rfl, rfl⟩ | ⟨rfl, rfl⟩
    · exact hk
    · exact cKw_eq2 (hF.1 _ (by decide) (by decide) (by decide) (by decide) (by decide) (by decide)) (hF.1 _ (by decide) (by decide) (by decide) (by decide) (by decide) (by decide)) (hF.1 _ (by decide) (by decide) (by decide) (by decide) (by decide) (by decide)) (fun g g1 g2 => hF.2 g (by omega)) h2
  · rcases hK with ⟨rfl, rfl⟩ | ⟨rfl, rfl⟩
    · exact cKw_eq2 (hF.1 _ (by decide) (by decide) (by decide) (by decide) (by decide) (by decide)) (hF.1 _ (by decide) (by decide) (by decide) (by decide) (by decide) (by decide)) (hF.1 _ (by decide) (by decide) (by decide) (by decide) (by decide) (by decide)) (fun g g1 g2 => hF.2 g (by omega)) h3
    · exact hk
def tpI (f : Nat → Int32) (l : Nat) : Nat → Nat
  | 0 => l
  | i + 1 => fN (f (tpI f l i))
set_option maxRecDepth 100000 in
set_option maxHeartbeats 4000000 in
theorem mc_tracePath (L : Nat) (xs : Nat → Int32) (d : Nat) (τ : kS) (S N l : Nat) (hN : N ≤ 600) (hl : l < N) (hp : ∀ i, 0 < i → i < N → (∃ j, j < i ∧ τ 198 i = nI j) ∧ ∃ s, s < S ∧ τ 199 i = nI s) : kXM kT L xs (d + 1) 85 [.ref 195, .int (nI l)] τ (fun r ω => r = none ∧ (∀ c, c ≠ 195 → c ≠ 203 → ω c = τ c) ∧ ∃ ln, ln ≤ 24 ∧ ω 195 9 = nI ln ∧ ∀ k, k < ln → ∃ s, s < S ∧ ω 203 k = nI s) := by
  have k30 : ∀ i, i ≤ 24 → (∀ j, j < i → 0 < tpI (τ 198) l j ∧ tpI (τ 198) l j < N) → ∀ lv, nk lv = true → ([(0, .ref 195), (1, .int (nI l)), (2, .int (nI i))] : jL).map (fun q => jl lv q.1) = ([(0, .ref 195), (1, .int (nI l)), (2, Value.int (nI i))] : jL).map (fun q => some q.2) → kX kT L xs (d + 1) 85 30 lv [] τ (fun r ω => r = none ∧ (∀ c, c ≠ 195 → c ≠ 203 → ω c = τ c) ∧ ∃ ln, ln ≤ 24 ∧ ω 195 9 = nI ln ∧ ∀ k, k < ln → ∃ s, s < S ∧ ω 203 k = nI s) := by
    intro i hi hch lv hk hlv
    refine kX_lv _ hk rfl hlv ?_
    have loop : ∀ q : Nat × (Nat → Int32), (q.1 ≤ i ∧ ∀ j, q.1 ≤ j → j < i → ∃ s, s < S ∧ q.2 j = nI s) → kX kT L xs (d + 1) 85 42 [(4, .int (pv q.1)), (3, .int (nI (tpI (τ 198) l (i - q.1)))), (0, .ref 195)] [] (va_up (va_up τ 195 (upd (τ 195) 9 (nI i))) 203 q.2) (fun r ω => r = none ∧ (∀ c, c ≠ 195 → c ≠ 203 → ω c = τ c) ∧ ∃ ln, ln ≤ 24 ∧ ω 195 9 = nI ln ∧ ∀ k, k < ln → ∃ s, s < S ∧ ω 203 k = nI s) := by
      refine kX_while (fun q : Nat × (Nat → Int32) => [(4, .int (pv q.1)), (3, .int (nI (tpI (τ 198) l (i - q.1)))), (0, .ref 195)]) (fun q => va_up (va_up τ 195 (upd (τ 195) 9 (nI i))) 203 q.2) _ (fun q => q.1) ?_
      rintro ⟨q, A⟩ ⟨j1, j2⟩ ih
      dsimp only at j1 j2 ih ⊢
      cases q with
      | zero =>
        show kX kT L xs (d + 1) 85 42 [(4, .int (-1)), (3, .int (nI (tpI (τ 198) l (i - 0)))), (0, .ref 195)] [] _ _
        iterate 2 (refine kX_one rfl ?_)
        refine kX_ret (i := .return_) (len := 1) rfl (Or.inr rfl) rfl (⟨rfl, fun c c1 c2 => by rw [up_ne c2, up_ne c1], i, hi, rfl, fun k hk => j2 k (Nat.zero_le _) hk⟩)
      | succ k =>
        show kX kT L xs (d + 1) 85 42 [(4, .int (nI k)), (3, .int (nI (tpI (τ 198) l (i - (k + 1))))), (0, .ref 195)] [] _ _
        obtain ⟨s1, s2⟩ := hch (i - (k + 1)) (by omega)
        have hnx : tpI (τ 198) l (i - k) = fN (τ 198 (tpI (τ 198) l (i - (k + 1)))) := by
          rw [show i - k = i - (k + 1) + 1 by omega]
          rfl
        generalize tpI (τ 198) l (i - (k + 1)) = s at *
        obtain ⟨⟨j, y1, y2⟩, m, m1, m2⟩ := hp s s1 s2
        have hj : tpI (τ 198) l (i - k) = j := by
          rw [hnx, y2]
          exact fN_nI (by omega)
        repeat refine kX_one rfl ?_
        refine kX_ifF (decide_eq_false (nI_pos (by omega))) ?_
        iterate 7 (refine kX_one rfl ?_)
        refine kX_ialdV rfl rfl (by decide) (s) (by first | rfl | decide) (by omega) (m2) ?_
        refine kX_iastN rfl rfl (by decide) (k) (by first | rfl | decide) (by omega) ?_
        iterate 4 (refine kX_one rfl ?_)
        refine kX_ialdV rfl rfl (by decide) (s) (by first | rfl | decide) (by omega) (y2) ?_
        iterate 3 (refine kX_one rfl ?_)
        have := ih (k, upd A k (nI m)) ⟨by simp only; omega, fun j' a b => by
          simp only
          by_cases e : j' = k
          · subst e
            exact ⟨m, m1, pk_us⟩
          · rw [pk_un e]
            exact j2 j' (by simp only at a; omega) b⟩ (by simp only; omega)
        dsimp only at this
        rw [pv_dec, hj] at this
        refine kX_to _ _ rfl rfl rfl ?_ this
        funext c; unfold  va_up; repeat' split
        all_goals first | rfl | omega | (subst_vars; rfl) | (funext j; unfold upd; repeat' split; all_goals first | rfl | omega | (subst_vars; rfl))
    iterate 8 (refine kX_one rfl ?_)
    refine kX_top (y := pv i) (pv_sub i) ?_
    iterate 1 (refine kX_one rfl ?_)
    have := loop (i, τ 203) ⟨Nat.le_refl _, fun j a b => by simp only at a; omega⟩
    dsimp only at this
    rw [Nat.sub_self] at this
    refine kX_to _ _ rfl rfl rfl ?_ this
    funext c; unfold  va_up; repeat' split
    all_goals first | rfl | omega | (subst_vars; rfl) | (funext j; unfold upd; repeat' split; all_goals first | rfl | omega | (subst_vars; rfl))
  have loop : ∀ q : Nat, (q ≤ 24 ∧ tpI (τ 198) l q < N ∧ ∀ j, j < q → 0 < tpI (τ 198) l j ∧ tpI (τ 198) l j < N) → kX kT L xs (d + 1) 85 4 [(2, .int (nI q)), (3, .int (nI (tpI (τ 198) l q))), (0, .ref 195), (1, .int (nI l))] [] τ (fun r ω => r = none ∧ (∀ c, c ≠ 195 → c ≠ 203 → ω c = τ c) ∧ ∃ ln, ln ≤ 24 ∧ ω 195 9 = nI ln ∧ ∀ k, k < ln → ∃ s, s < S ∧ ω 203 k = nI s) := by
    refine kX_while (fun q => [(2, .int (nI q)), (3, .int (nI (tpI (τ 198) l q))), (0, .ref 195), (1, .int (nI l))]) (fun _ => τ) _ (fun q => 24 - q) ?_
    rintro i ⟨i1, i2, i3⟩ ih
    repeat refine kX_one rfl ?_
    refine kX_if (fun q => ?_) (fun q => ?_)
    · exact k30 i i1 i3 _ rfl rfl
    · have q := qleF q (tpI (τ 198) l i) 0
      repeat refine kX_one rfl ?_
      refine kX_if (fun q2 => ?_) (fun q2 => ?_)
      · exact k30 i i1 i3 _ rfl rfl
      · have q2 := qgeF q2 i 24
        obtain ⟨⟨j, y1, y2⟩, -⟩ := hp _ q i2
        have hj : tpI (τ 198) l (i + 1) = j := by
          show fN (τ 198 (tpI (τ 198) l i)) = j
          rw [y2]
          exact fN_nI (by omega)
        iterate 5 (refine kX_one rfl ?_)
        refine kX_ialdV rfl rfl (by decide) (tpI (τ 198) l i) (by first | rfl | decide) (by omega) (y2) ?_
        iterate 2 (refine kX_one rfl ?_)
        have := ih (i + 1) ⟨q2, by rw [hj]; omega, fun j' hj' => by
          by_cases e : j' = i
          · subst e
            exact ⟨q, i2⟩
          · exact i3 j' (by omega)⟩ (by omega)
        rw [hj, ← nI_1] at this
        exact kX_lv _ rfl rfl rfl this
  unfold kXM
  iterate 4 (refine kX_one rfl ?_)
  exact kX_lv _ rfl rfl rfl (loop 0 ⟨by decide, hl, fun j hj => absurd hj (Nat.not_lt_zero j)⟩)
