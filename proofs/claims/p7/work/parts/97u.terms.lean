/-! the class: its table of TERMS -/
/-- of what a TERM may be: nothing, an older TERM, or one without number -/
def cCh (t : Nat) (c : Int32) : Prop := c = -1 ∨ ∃ z, z < 2000 ∧ c = nI z ∧ (z < t ∨ 200 ≤ z)
def cG (σ : kS) (t : Nat) (c : Int32) : Prop := ∀ z, z < t → c = nI z → σ 8 z = 1
def cTt (σ : kS) (t : Nat) : Prop :=
  (∃ k, k ≤ 9 ∧ σ 2 t = nI k) ∧ cCh t (σ 3 t) ∧ cCh t (σ 4 t) ∧ (σ 8 t = 0 ∨ σ 8 t = 1) ∧
  (σ 2 t = nI 3 → σ 8 t = 0 ∧ ∃ p, p < 6 ∧ σ 12 t = nI p) ∧
  (σ 2 t ≠ nI 3 → (σ 8 t = 1 ↔ cG σ t (σ 3 t) ∧ cG σ t (σ 4 t))) ∧
  (fN (σ 2 t) ≤ 3 → σ 3 t = -1 ∧ σ 4 t = -1) ∧
  (4 ≤ fN (σ 2 t) → σ 8 t = 0 → ∃ x, x < t ∧ σ 3 t = nI x ∧ ((∃ y, y < t ∧ σ 4 t = nI y) ∨ (σ 4 t = -1 ∧ (σ 2 t = nI 7 ∨ σ 2 t = nI 9)))) ∧
  (4 ≤ fN (σ 2 t) → σ 6 t = -1 ∨ ∃ u, u < t ∧ σ 6 t = nI u ∧ 4 ≤ fN (σ 2 u))
/-- the class's table holds together: n TERMS -/
def cT (σ : kS) (n : Nat) : Prop := n ≤ 200 ∧ σ 1 11 = nI n ∧ (∀ s, s < 256 → σ 7 s = -1 ∨ ∃ t, t < n ∧ σ 7 s = nI t ∧ 4 ≤ fN (σ 2 t)) ∧ ∀ t, t < n → cTt σ t
theorem cTt_eq {σ τ : kS} {t : Nat} (h : ∀ u, u ≤ t → τ 2 u = σ 2 u ∧ τ 3 u = σ 3 u ∧ τ 4 u = σ 4 u ∧ τ 8 u = σ 8 u ∧ τ 12 u = σ 12 u ∧ τ 6 u = σ 6 u) (hT : cTt σ t) : cTt τ t := by
  obtain ⟨e1, e2, e3, e4, e5, e6⟩ := h t (Nat.le_refl _)
  have hG : ∀ c, cG τ t c ↔ cG σ t c := fun c => ⟨fun q z z1 z2 => by rw [← (h z (by omega)).2.2.2.1]; exact q z z1 z2, fun q z z1 z2 => by rw [(h z (by omega)).2.2.2.1]; exact q z z1 z2⟩
  unfold cTt
  rw [e1, e2, e3, e4, e5, e6, hG, hG]
  obtain ⟨a1, a2, a3, a4, a5, a6, a7, a8, a9⟩ := hT
  refine ⟨a1, a2, a3, a4, a5, a6, a7, a8, fun q => ?_⟩
  rcases a9 q with z | ⟨u, u1, u2, u3⟩
  · exact Or.inl z
  · exact Or.inr ⟨u, u1, u2, by rw [(h u (by omega)).1]; exact u3⟩
theorem cG_eq {σ τ : kS} {t : Nat} {c : Int32} (h : ∀ u, u < t → τ 8 u = σ 8 u) : cG τ t c ↔ cG σ t c := ⟨fun q z z1 z2 => by rw [← h z z1]; exact q z z1 z2, fun q z z1 z2 => by rw [h z z1]; exact q z z1 z2⟩
def cP3 (σ : kS) (n : Nat) (w x y : Int32) : kS := va_up (va_up (va_up σ 2 (upd (σ 2) n w)) 3 (upd (σ 3) n x)) 4 (upd (σ 4) n y)
def cPut (σ : kS) (n : Nat) (w x y z g : Int32) : kS := va_up (va_up (va_up (va_up (va_up (va_up (va_up σ 2 (upd (σ 2) n w)) 3 (upd (σ 3) n x)) 4 (upd (σ 4) n y)) 5 (upd (σ 5) n z)) 8 (upd (σ 8) n g)) 9 (upd (σ 9) n 0)) 1 (upd (σ 1) 11 (nI (n + 1)))
set_option maxRecDepth 100000 in
set_option maxHeartbeats 4000000 in
theorem mc_put (L : Nat) (xs : Nat → Int32) (d : Nat) (σ : kS) (n : Nat) (w x y : Int32) (hn : n ≤ 200) (h : σ 1 11 = nI n) (h01 : ∀ z, z < n → σ 8 z = 0 ∨ σ 8 z = 1) : kXM kT L xs (d + 3) 107 [.ref 1, .int w, .int x, .int y] σ (fun r σ' => (n = 200 ∧ r = some (.int (-1)) ∧ σ = σ') ∨ (n < 200 ∧ r = some (.int (nI n)) ∧ ∃ z g, (g = 0 ∨ g = 1) ∧ (g = 1 ↔ cG σ n x ∧ cG σ n y) ∧ σ' = cPut σ n w x y z g)) := by
  unfold kXM
  iterate 1 (refine kX_one rfl ?_)
  refine kX_cal (mc_isFull L xs (d + 1) σ n hn h) rfl (Or.inr rfl) rfl rfl rfl (fun r1 σ1 q1 => ?_)
  obtain ⟨rfl, rfl⟩ := q1
  repeat refine kX_one rfl ?_
  refine kX_if (fun q => ?_) (fun q => ?_)
  · have hlt : n < 200 := by
      have : ¬ n = 200 := fun z => isB_ne.mpr z (qeq q)
      omega
    have hρ : cP3 σ n w x y 1 11 = nI n := h
    have k104 : ∀ z g, (g = 0 ∨ g = 1) → (g = 1 ↔ cG σ n x ∧ cG σ n y) → kX kT L xs (d + 3) 107 104 [(4, .int (nI n)), (0, .ref 1), (1, .int w), (2, .int x), (3, .int y)] [.int g, .int (nI n), .ref 8] (va_up (cP3 σ n w x y) 5 (upd (σ 5) n z)) (fun r σ' => (n = 200 ∧ r = some (.int (-1)) ∧ σ = σ') ∨ (n < 200 ∧ r = some (.int (nI n)) ∧ ∃ z g, (g = 0 ∨ g = 1) ∧ (g = 1 ↔ cG σ n x ∧ cG σ n y) ∧ σ' = cPut σ n w x y z g)) := by
      intro z g hg hgc
      refine kX_bastN rfl rfl (by decide) (n) (by first | rfl | decide) (hlt) (hg) ?_
      iterate 4 (refine kX_one rfl ?_)
      refine kX_bastN rfl rfl (by decide) (n) (by first | rfl | decide) (hlt) (Or.inl rfl) ?_
      iterate 5 (refine kX_one rfl ?_)
      refine kX_st (cPut σ n w x y z g) ?_ ?_
      · unfold cPut
        rw [← nI_1]
        funext c; unfold cP3 va_up; repeat' split
        all_goals first | rfl | omega | (subst_vars; rfl) | (funext j; unfold upd; repeat' split; all_goals first | rfl | omega | (subst_vars; rfl))
      iterate 1 (refine kX_one rfl ?_)
      refine kX_ret (i := .ireturn) (len := 1) rfl (Or.inr rfl) rfl (Or.inr ⟨hlt, rfl, z, g, hg, hgc, rfl⟩)
    have hgx : ∀ c : Int32, isB (isN c n) = 0 → cG σ n c := fun c hc z z1 z2 => absurd hc (isB_ne.mpr ⟨z, z1, z2⟩)
    have hgy : ∀ t, t < n → σ 8 t = 1 → cG σ n (nI t) := fun t ht hg z z1 z2 => by
      rw [← nI_inj z2]
      exact hg
    have hgz : ∀ t, t < n → σ 8 t = 0 → ¬ cG σ n (nI t) := fun t ht hg z => by
      have := z t ht rfl
      rw [hg] at this
      exact absurd this (by decide)
    have h1of : ∀ t, t < n → σ 8 t ≠ 0 → σ 8 t = 1 := fun t ht q => (h01 t ht).elim (fun z => absurd z q) id
    have k82 : ∀ z, cG σ n x → kX kT L xs (d + 3) 107 82 [(4, .int (nI n)), (0, .ref 1), (1, .int w), (2, .int x), (3, .int y)] [.int (nI n), .ref 8] (va_up (cP3 σ n w x y) 5 (upd (σ 5) n z)) (fun r σ' => (n = 200 ∧ r = some (.int (-1)) ∧ σ = σ') ∨ (n < 200 ∧ r = some (.int (nI n)) ∧ ∃ z g, (g = 0 ∨ g = 1) ∧ (g = 1 ↔ cG σ n x ∧ cG σ n y) ∧ σ' = cPut σ n w x y z g)) := by
      intro z hx
      iterate 2 (refine kX_one rfl ?_)
      refine kX_cal (mc_has L xs (d + 1) _ n y hn hρ) rfl (Or.inr rfl) rfl rfl rfl (fun r1 σ1 q1 => ?_)
      obtain ⟨rfl, rfl⟩ := q1
      repeat refine kX_one rfl ?_
      refine kX_if (fun q2 => ?_) (fun q2 => ?_)
      · iterate 2 (refine kX_one rfl ?_)
        exact k104 z 1 (Or.inr rfl) ⟨fun _ => ⟨hx, hgx y (qeq q2)⟩, fun _ => rfl⟩
      · obtain ⟨t, t1, rfl⟩ := isB_ne.mp (qeqF q2)
        iterate 3 (refine kX_one rfl ?_)
        refine kX_baldN rfl rfl (by decide) (t) (by first | rfl | decide) (by omega) ?_
        repeat refine kX_one rfl ?_
        refine kX_if (fun q3 => ?_) (fun q3 => ?_)
        · have q3 : σ 8 t = 0 := qeq q3
          iterate 1 (refine kX_one rfl ?_)
          exact k104 z 0 (Or.inl rfl) ⟨fun z => absurd z (by decide), fun z => absurd z.2 (hgz t t1 q3)⟩
        · have q3 : σ 8 t ≠ 0 := qeqF q3
          iterate 2 (refine kX_one rfl ?_)
          exact k104 z 1 (Or.inr rfl) ⟨fun _ => ⟨hx, hgy t t1 (h1of t t1 q3)⟩, fun _ => rfl⟩
    iterate 2 (refine kX_one rfl ?_)
    refine kX_top (h) ?_
    iterate 5 (refine kX_one rfl ?_)
    refine kX_iastN rfl rfl (by decide) (n) (by first | rfl | decide) (by omega) ?_
    iterate 4 (refine kX_one rfl ?_)
    refine kX_iastN rfl rfl (by decide) (n) (by first | rfl | decide) (by omega) ?_
    iterate 4 (refine kX_one rfl ?_)
    refine kX_iastN rfl rfl (by decide) (n) (by first | rfl | decide) (by omega) ?_
    iterate 6 (refine kX_one rfl ?_)
    refine kX_cal (mc_sizeOf L xs d (cP3 σ n w x y) n x hn hρ) rfl (Or.inr rfl) rfl rfl rfl (fun r1 σ1 q1 => ?_)
    obtain ⟨⟨z1, rfl, -⟩, rfl⟩ := q1
    iterate 3 (refine kX_one rfl ?_)
    refine kX_cal (mc_sizeOf L xs d (cP3 σ n w x y) n y hn hρ) rfl (Or.inr rfl) rfl rfl rfl (fun r1 σ1 q1 => ?_)
    obtain ⟨⟨z2, rfl, -⟩, rfl⟩ := q1
    iterate 1 (refine kX_one rfl ?_)
    refine kX_iastN rfl rfl (by decide) (n) (by first | rfl | decide) (by omega) ?_
    refine kX_to [(4, .int (nI n)), (0, .ref 1), (1, .int w), (2, .int x), (3, .int y)] (va_up (cP3 σ n w x y) 5 (upd (σ 5) n (Int32.ofInt 1 + z1 + z2))) rfl rfl rfl rfl ?_
    iterate 5 (refine kX_one rfl ?_)
    refine kX_cal (mc_has L xs (d + 1) _ n x hn hρ) rfl (Or.inr rfl) rfl rfl rfl (fun r1 σ1 q1 => ?_)
    obtain ⟨rfl, rfl⟩ := q1
    repeat refine kX_one rfl ?_
    refine kX_if (fun q2 => ?_) (fun q2 => ?_)
    · exact k82 _ (hgx x (qeq q2))
    · obtain ⟨t, t1, rfl⟩ := isB_ne.mp (qeqF q2)
      iterate 3 (refine kX_one rfl ?_)
      refine kX_baldN rfl rfl (by decide) (t) (by first | rfl | decide) (by omega) ?_
      repeat refine kX_one rfl ?_
      refine kX_if (fun q3 => ?_) (fun q3 => ?_)
      · have q3 : σ 8 t = 0 := qeq q3
        iterate 1 (refine kX_one rfl ?_)
        exact k104 _ 0 (Or.inl rfl) ⟨fun z => absurd z (by decide), fun z => absurd z.1 (hgz t t1 q3)⟩
      · have q3 : σ 8 t ≠ 0 := qeqF q3
        exact k82 _ (hgy t t1 (h1of t t1 q3))
  · have q := isB_ne.mp (qeqF q)
    repeat refine kX_one rfl ?_
    refine kX_ret (i := .ireturn) (len := 1) rfl (Or.inr rfl) rfl (Or.inl ⟨q, rfl, rfl⟩)
/-- a TERM more; V: the new TERM's own rows -/
theorem cT_push {σ τ : kS} {n : Nat} (h : cT σ n) (hn : n < 200) (hc : τ 1 11 = nI (n + 1)) (ho : ∀ u, u < n → τ 2 u = σ 2 u ∧ τ 3 u = σ 3 u ∧ τ 4 u = σ 4 u ∧ τ 8 u = σ 8 u ∧ τ 12 u = σ 12 u ∧ τ 6 u = σ 6 u) (hh : ∀ s, s < 256 → τ 7 s = σ 7 s ∨ (τ 7 s = nI n ∧ 4 ≤ fN (τ 2 n))) (ht : cTt τ n) : cT τ (n + 1) := by
  obtain ⟨h1, h2, h3, h4⟩ := h
  refine ⟨by omega, hc, fun s hs => ?_, fun t htn => ?_⟩
  · rcases hh s hs with e | ⟨e1, e2⟩
    · rw [e]
      rcases h3 s hs with q | ⟨t, t1, t2, t3⟩
      · exact Or.inl q
      · exact Or.inr ⟨t, by omega, t2, by rw [(ho t t1).1]; exact t3⟩
    · exact Or.inr ⟨n, by omega, e1, e2⟩
  · by_cases e : t = n
    · subst e
      exact ht
    · exact cTt_eq (fun u hu => ho u (by omega)) (h4 t (by omega))
theorem cT_01 {σ : kS} {n : Nat} (h : cT σ n) : ∀ z, z < n → σ 8 z = 0 ∨ σ 8 z = 1 := fun z hz => (h.2.2.2 z hz).2.2.2.1
theorem cG_m1 (σ : kS) (t : Nat) (ht : t ≤ 200) : cG σ t (-1) := fun z z1 z2 => absurd z2.symm (nI_m1 (by omega))
